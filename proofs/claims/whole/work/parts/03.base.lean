
-- base: what every walk here stands on
abbrev vwCl : List vw_C := [(RX0, TX0, 6), (RX1, TX1, 12), (RX2, TX2, 7), (RX3, TX3, 12), (RX4, TX4, 6), (RX5, TX5, 40)]
theorem og_pos {α : Type} {c : Prop} {i : Decidable c} {A B : Option α} {R : α} (hc : c) (h : (@ite _ c i A B) = some R) : A = some R := by rw [if_pos hc] at h; exact h
theorem og_neg {α : Type} {c : Prop} {i : Decidable c} {A B : Option α} {R : α} (hc : ¬ c) (h : (@ite _ c i A B) = some R) : B = some R := by rw [if_neg hc] at h; exact h
theorem og_guard {α : Type} {c : Prop} {i : Decidable c} {A : Option α} {R : α} (h : (@ite _ c i A none) = some R) : c ∧ A = some R := by
  by_cases hc : c
  · exact ⟨hc, og_pos hc h⟩
  · rw [if_neg hc] at h; cases h
theorem og_bind {α β : Type} {x : Option α} {f : α → Option β} {R : β} (h : x.bind f = some R) : ∃ y, x = some y ∧ f y = some R := Option.bind_eq_some_iff.mp h
theorem og_inj {α : Type} {a b : α} (h : some a = some b) : b = a := (Option.some.inj h).symm
/-- a loop with a fuel -/
def lp {V R : Type} (body : (V → Option R) → V → Option R) : Nat → V → Option R
  | 0, _ => none
  | n + 1, v => body (lp body n) v
theorem lp_succ {V R : Type} (body : (V → Option R) → V → Option R) (n : Nat) (v : V) : lp body (n + 1) v = body (lp body n) v := rfl
theorem lp_zero {V R : Type} {body : (V → Option R) → V → Option R} {v : V} {r : R} (h : lp body 0 v = some r) : False := by cases h
/-- a loop by a measure: what it answers -/
theorem lp_run {V R : Type} {body : (V → Option R) → V → Option R} (I : V → Prop) (F : V → Option R) (μ : V → Nat) (hs : ∀ (rec : V → Option R) (v : V), I v → (∀ w, I w → μ w < μ v → rec w = F w) → body rec v = F v) : ∀ (n : Nat) (v : V), I v → μ v < n → lp body n v = F v := by
  intro n
  induction n with
  | zero => intro v _ h; omega
  | succ n ih =>
    intro v hv hn
    rw [lp_succ]
    exact hs _ v hv (fun w hw hlt => ih w hw (by omega))
/-- a loop by a measure: a property of what it answers -/
theorem lp_post {V R : Type} {body : (V → Option R) → V → Option R} (I : V → Prop) (Q : V → R → Prop) (μ : V → Nat) (hs : ∀ (rec : V → Option R) (v : V), I v → (∀ w, I w → μ w < μ v → ∃ r, rec w = some r ∧ Q w r) → ∃ r, body rec v = some r ∧ Q v r) : ∀ (n : Nat) (v : V), I v → μ v < n → ∃ r, lp body n v = some r ∧ Q v r := by
  intro n
  induction n with
  | zero => intro v _ h; omega
  | succ n ih =>
    intro v hv hn
    rw [lp_succ]
    exact hs _ v hv (fun w hw hlt => ih w hw (by omega))
/-- a boolean's number -/
def bo (x : Int32) : Prop := x = 0 ∨ x = 1
theorem bo_def (x : Int32) : bo x ↔ (x = 0 ∨ x = 1) := Iff.rfl
theorem bo_nar {x : Int32} (h : x = 0 ∨ x = 1) : narrow .boolean (.int x) = .int x := by rcases h with rfl | rfl <;> decide +kernel
theorem bo_fit {x : Int32} (h : x = 0 ∨ x = 1) : fits .boolean (.int x) = true := by rcases h with rfl | rfl <;> decide +kernel
def inb (i : Int32) (n : Nat) : Bool := decide (¬ (i < 0 ∨ n ≤ i.toNatClampNeg))
theorem inb_vp {i : Int32} {n : Nat} (h : inb i n = true) : vp_in i n := by
  have h1 : ¬ (i < 0 ∨ n ≤ i.toNatClampNeg) := of_decide_eq_true h
  exact h1
def up2 (E : Nat → Nat → Int32) (k i : Nat) (x : Int32) : Nat → Nat → Int32 := va_up E k (upd (E k) i x)
def up2J (E : Nat → Nat → Int64) (k i : Nat) (x : Int64) : Nat → Nat → Int64 := va_up E k (vp_updL (E k) i x)
theorem px {α : Type} : ∀ (k : Nat) {ws : List α} {x : α}, ws[k]? = some x → ws.Perm ([x] ++ ws.eraseIdx k)
  | _, [], _, h => by simp at h
  | 0, a :: l, x, h => by
    have e : a = x := Option.some.inj h
    subst e
    exact List.Perm.refl _
  | k + 1, a :: l, x, h => by
    have h1 : l[k]? = some x := h
    exact ((px k h1).cons a).trans (List.Perm.swap x a _)
theorem px' {α : Type} (k : Nat) {ws ws' : List α} {x x' : α} (h : ws[k]? = some x) (e : ws' = ws.set k x') : ws'.Perm ([x'] ++ ws.eraseIdx k) := by
  subst e
  have hk : k < ws.length := (List.getElem?_eq_some_iff.mp h).1
  have h1 := px k (ws := ws.set k x') (x := x') (by rw [List.getElem?_set_self hk])
  rwa [List.eraseIdx_set_eq] at h1
theorem pq_P {D : va_G} {cl : List vw_C} {A : Nat → Prop} {X : va_W} {L : List Nat} {f f' : Nat → va_E} {a k : Nat} {e : va_E} {H : Heap} (hD : va_D A (X ++ va_pl L f)) (ma : a ∈ L) (hk : (X ++ va_pl L f)[k]? = some (a, f a)) (he : ∀ b, va_up f a e b = f' b) (hP : va_P D cl ((X ++ va_pl L f).set k (a, e)) H) : va_P D cl (X ++ va_pl L f') H := by
  rw [va_pl_set hD ma hk, va_pl_congr he] at hP
  exact hP
theorem pq_D {A B : Nat → Prop} {X : va_W} {L : List Nat} {f f' : Nat → va_E} {a k : Nat} {e : va_E} (hD : va_D A (X ++ va_pl L f)) (ma : a ∈ L) (hk : (X ++ va_pl L f)[k]? = some (a, f a)) (he : ∀ b, va_up f a e b = f' b) (hD1 : va_D B ((X ++ va_pl L f).set k (a, e))) : va_D B (X ++ va_pl L f') := by
  rw [va_pl_set hD ma hk, va_pl_congr he] at hD1
  exact hD1
-- nest mates' links
def nwL : List Cond := [.fieldLinkNest RX4 163 RX3 "inputs" "I" RX4, .fieldLinkNest RX4 166 RX3 "bits" "I" RX4, .fieldLinkNest RX1 81 RX3 "numbers" "[I" RX4, .fieldLinkNest RX1 84 RX3 "firsts" "[I" RX4, .fieldLinkNest RX1 87 RX3 "seconds" "[I" RX4, .fieldLinkNest RX1 108 RX3 "thirds" "[I" RX4, .fieldLinkNest RX1 22 RX3 "size" "I" RX4, .fieldLinkNest RX4 44 RX3 "size" "I" RX4, .fieldLinkNest RX4 80 RX2 "decided" "J" RX4, .fieldLinkNest RX1 63 RX2 "ones" "J" RX4, .fieldLinkNest RX0 67 RX2 "ones" "J" RX4, .fieldLinkNest RX4 103 RX2 "ones" "J" RX4, .fieldLinkNest RX4 72 RX2 "end" "I" RX4, .fieldLinkNest RX0 114 RX2 "end" "I" RX4, .fieldLinkNest RX4 77 RX2 "endPlace" "I" RX4, .fieldLinkNest RX0 115 RX2 "endPlace" "I" RX4, .fieldLinkNest RX4 90 RX2 "leastWord" "I" RX4, .fieldLinkNest RX0 95 RX2 "leastWord" "I" RX4, .fieldLinkNest RX4 93 RX2 "result" "I" RX4, .fieldLinkNest RX0 72 RX2 "result" "I" RX4, .fieldLinkNest RX4 96 RX2 "alwaysSameResult" "Z" RX4, .fieldLinkNest RX0 68 RX2 "alwaysSameResult" "Z" RX4, .fieldLinkNest RX4 63 RX0 "size" "I" RX4, .fieldLinkNest RX4 162 RX0 "visited" "J" RX4, .fieldLinkNest RX4 169 RX0 "failed" "J" RX4, .fieldLinkNest RX4 149 RX1 "registers" "[I" RX4, .fieldLinkNest RX4 156 RX1 "cells" "[I" RX4, .fieldLinkNest RX2 25 RX1 "place" "I" RX4, .fieldLinkNest RX0 88 RX1 "place" "I" RX4, .fieldLinkNest RX4 135 RX1 "place" "I" RX4, .fieldLinkNest RX0 84 RX1 "visited" "J" RX4, .fieldLinkNest RX4 138 RX1 "visited" "J" RX4, .fieldLinkNest RX2 7 RX1 "decided" "J" RX4, .fieldLinkNest RX4 141 RX1 "decided" "J" RX4, .fieldLinkNest RX2 16 RX1 "ones" "J" RX4, .fieldLinkNest RX0 60 RX1 "ones" "J" RX4, .fieldLinkNest RX4 142 RX1 "ones" "J" RX4, .fieldLinkNest RX2 20 RX1 "end" "I" RX4, .fieldLinkNest RX0 85 RX1 "end" "I" RX4, .fieldLinkNest RX4 134 RX1 "end" "I" RX4, .fieldLinkNest RX2 34 RX1 "result" "I" RX4, .fieldLinkNest RX0 75 RX1 "result" "I" RX4, .fieldLinkNest RX4 122 RX1 "result" "I" RX4, .methodLinkNest RX4 11 yX3_init RX4, .methodLinkNest RX0 25 yX2_init RX4, .methodLinkNest RX4 25 yX1_init RX4, .methodLinkNest RX3 61 yX4_isRegister RX4, .methodLinkNest RX3 58 yX4_isDivision RX4, .methodLinkNest RX1 35 yX4_mark RX4, .methodLinkNest RX1 126 yX4_isCell RX4, .methodLinkNest RX1 115 yX4_isDivision RX4, .methodLinkNest RX1 119 yX4_divide RX4, .methodLinkNest RX1 123 yX4_combine RX4, .methodLinkNest RX0 91 yX4_mark RX4, .methodLinkNest RX0 106 yX4_isBelowUnsigned RX4, .methodLinkNest RX0 110 yX4_placeOfMark RX4]
def nw_is : Cond → Bool
  | .fieldLinkNest _ _ _ _ _ _ => true
  | .methodLinkNest _ _ _ _ => true
  | _ => false
theorem nwL_all : nwL.all nw_is = true := by decide +kernel
def NW (U : State) : Prop := ∀ w ∈ nwL, va_Nw w U
theorem NW.warm {s U : State} (hW : s.WarmedH U.vm) (h : NW s) : NW U := fun w hw => by
  have hn := List.all_eq_true.mp nwL_all w hw
  have h1 := h w hw
  cases w with
  | fieldLinkNest a b c d e f => exact va_Nw.warmF hW h1
  | methodLinkNest a b c d => exact va_Nw.warmM hW h1
  | _ => cases hn
theorem NW.vm {u U : State} (ev : u.vm = U.vm) (h : NW u) : NW U := fun w hw => by
  have hn := List.all_eq_true.mp nwL_all w hw
  have h1 := h w hw
  cases w with
  | fieldLinkNest a b c d e f => exact va_Nw.same rfl ev h1
  | methodLinkNest a b c d => exact va_Nw.same rfl ev h1
  | _ => cases hn
-- the words, the same for every method
abbrev wsU (y : MethodName) (cc : ByteArray) (n : Nat) (r : Option FieldType) : List Cond := Cond.code y cc n r :: wsL_law
theorem gwC {y : MethodName} {cc : ByteArray} {n : Nat} {r : Option FieldType} (hm : Cond.code y cc n r ∈ wsL_law) : ∀ w ∈ wsU y cc n r, w ∈ wsL_law := fun w hw => by
  rcases List.mem_cons.mp hw with e | e
  · rw [e]; exact hm
  · exact e
theorem gi {ws : List Cond} (h : ∀ w ∈ ws, w ∈ wsL_law) : GoodIn wsL_law ws := fun w hw => ⟨h w hw, good_of_word (gdL w (h w hw))⟩
theorem gw {y : MethodName} {cc : ByteArray} {n : Nat} {r : Option FieldType} (hm : Cond.code y cc n r ∈ wsL_law) : GoodIn wsL_law (wsU y cc n r) := gi (gwC hm)
theorem gwV {own : String} {idx : Nat} {C : String} {y : MethodName} {cc : ByteArray} {n : Nat} {r : Option FieldType} (h1 : Cond.methodLink own idx y ∈ wsL_law) (h2 : Cond.instanceMethod y ∈ wsL_law) (h3 : Cond.selects C y y ∈ wsL_law) (h4 : Cond.initialized C ∈ wsL_law) (h5 : Cond.code y cc n r ∈ wsL_law) : GoodIn wsL_law (wsV own idx C y (wsU y cc n r)) := gi (List.forall_mem_append.mpr ⟨List.forall_mem_cons.mpr ⟨h1, List.forall_mem_cons.mpr ⟨h2, List.forall_mem_cons.mpr ⟨h3, List.forall_mem_cons.mpr ⟨h4, fun _ h => absurd h List.not_mem_nil⟩⟩⟩⟩, gwC h5⟩)
theorem gwS {own : String} {idx : Nat} {y : MethodName} {cc : ByteArray} {n : Nat} {r : Option FieldType} (h1 : Cond.methodLink own idx y ∈ wsL_law) (h2 : Cond.static y ∈ wsL_law) (h4 : Cond.initialized own ∈ wsL_law) (h5 : Cond.code y cc n r ∈ wsL_law) : GoodIn wsL_law (wsS own idx y (wsU y cc n r)) := gi (List.forall_mem_append.mpr ⟨List.forall_mem_cons.mpr ⟨h1, List.forall_mem_cons.mpr ⟨h2, List.forall_mem_cons.mpr ⟨h4, fun _ h => absurd h List.not_mem_nil⟩⟩⟩, gwC h5⟩)
theorem gwT {own : String} {idx : Nat} {y : MethodName} {cc : ByteArray} {n : Nat} {r : Option FieldType} (h1 : Cond.methodLink own idx y ∈ wsL_law) (h2 : Cond.static y ∈ wsL_law) (h4 : Cond.initialized y.cls ∈ wsL_law) (h5 : Cond.code y cc n r ∈ wsL_law) : GoodIn wsL_law (va_wsS own idx y (wsU y cc n r)) := gi (List.forall_mem_append.mpr ⟨List.forall_mem_cons.mpr ⟨h1, List.forall_mem_cons.mpr ⟨h2, List.forall_mem_cons.mpr ⟨h4, fun _ h => absurd h List.not_mem_nil⟩⟩⟩, gwC h5⟩)
def tyL (cA : Nat → ClassId) : List (ClassId × FieldType) := [(cA 0, .int), (cA 1, .boolean), (cA 2, .long), (cA 3, .object "SymbolBench$Path"), (cA 4, .array .int)]
def CK (D : va_G) (cA : Nat → ClassId) (U : State) : Prop := va_K D vwCl (tyL cA) U ∧ NW U
theorem CK.warm {D : va_G} {cA : Nat → ClassId} {s U : State} (hW : s.WarmedH U.vm) (h : CK D cA s) : CK D cA U := ⟨va_K.moved hW.alike h.1, NW.warm hW h.2⟩
theorem CK.vm {D : va_G} {cA : Nat → ClassId} {u U : State} (e : u.vm = U.vm) (h : CK D cA u) : CK D cA U := ⟨va_K.moved (by rw [e]; exact Vm.Alike.refl U.vm) h.1, NW.vm e h.2⟩
-- worlds as sets
theorem vP_iff {D : va_G} {cl : List vw_C} {ws : va_W} {H : Heap} : va_P D cl ws H ↔ ∀ q ∈ ws, va_at D cl q H := by
  constructor
  · intro h q hq
    obtain ⟨k, hk⟩ := List.getElem?_of_mem hq
    exact h k q hk
  · intro h k q hk
    exact h q (List.mem_of_getElem? hk)
theorem vD_iff {A : Nat → Prop} {ws : va_W} : va_D A ws ↔ (ws.map Prod.fst).Nodup ∧ ∀ q ∈ ws, A q.1 := by
  constructor
  · intro h
    refine ⟨?_, fun q hq => ?_⟩
    · rw [List.Nodup, List.pairwise_iff_getElem]
      intro i j hi hj hij e
      rw [List.length_map] at hi hj
      rw [List.getElem_map, List.getElem_map] at e
      have := h.1 i j _ _ (List.getElem?_eq_getElem hi) (List.getElem?_eq_getElem hj) e
      omega
    · obtain ⟨k, hk⟩ := List.getElem?_of_mem hq
      exact h.2 k q hk
  · intro h
    refine ⟨fun i j p q hi hj e => ?_, fun k q hk => h.2 q (List.mem_of_getElem? hk)⟩
    have hn := h.1
    rw [List.Nodup, List.pairwise_iff_getElem] at hn
    obtain ⟨hi1, hi2⟩ := List.getElem?_eq_some_iff.mp hi
    obtain ⟨hj1, hj2⟩ := List.getElem?_eq_some_iff.mp hj
    rcases Nat.lt_trichotomy i j with c | c | c
    · exact absurd (by rw [List.getElem_map, List.getElem_map, hi2, hj2]; exact e) (hn i j (by rw [List.length_map]; exact hi1) (by rw [List.length_map]; exact hj1) c)
    · exact c
    · exact absurd (by rw [List.getElem_map, List.getElem_map, hi2, hj2]; exact e.symm) (hn j i (by rw [List.length_map]; exact hj1) (by rw [List.length_map]; exact hi1) c)
theorem vP_perm {D : va_G} {cl : List vw_C} {ws ws' : va_W} {H : Heap} (p : ws.Perm ws') (h : va_P D cl ws H) : va_P D cl ws' H := vP_iff.mpr fun q hq => vP_iff.mp h q (p.mem_iff.mpr hq)
theorem vD_perm {A : Nat → Prop} {ws ws' : va_W} (p : ws.Perm ws') (h : va_D A ws) : va_D A ws' := by
  have h1 := vD_iff.mp h
  exact vD_iff.mpr ⟨((p.map Prod.fst).nodup_iff).mp h1.1, fun q hq => h1.2 q (p.mem_iff.mpr hq)⟩
abbrev wl (l : List va_W) : va_W := l.flatten
theorem pm {f : Nat → va_W} (is js ks : List Nat) (h : is.isPerm (js ++ ks) = true) : (wl (is.map f)).Perm (wl (js.map f) ++ wl (ks.map f)) := by
  show (is.map f).flatten.Perm ((js.map f).flatten ++ (ks.map f).flatten)
  rw [← List.flatten_append, ← List.map_append]
  exact ((List.isPerm_iff.mp h).map f).flatten
theorem pmB {f : Nat → va_W} {pl : va_W} (is js ks : List Nat) (h : is.isPerm (js ++ ks) = true) : (wl (is.map f) ++ pl).Perm ((wl (js.map f) ++ pl) ++ wl (ks.map f)) := by
  refine ((pm (f := f) is js ks h).append_right pl).trans ?_
  rw [List.append_assoc, List.append_assoc]
  exact List.Perm.append_left _ List.perm_append_comm
theorem pmC {f : Nat → va_W} {pl : va_W} (is js ks : List Nat) (h : is.isPerm (js ++ ks) = true) : (wl (is.map f) ++ pl).Perm (wl (js.map f) ++ (wl (ks.map f) ++ pl)) := by
  refine ((pm (f := f) is js ks h).append_right pl).trans ?_
  rw [List.append_assoc]
theorem pmZ {ws : va_W} : ws.Perm (ws ++ []) := by rw [List.append_nil]
/-- the frame: what the callee had comes back, the rest stays -/
theorem fj {D : va_G} {cl : List vw_C} {A : Nat → Prop} {ws wc wr w1 : va_W} {H H1 : Heap} (sp : ws.Perm (wc ++ wr)) (hP : va_P D cl ws H) (hD : va_D A ws) (hk : ∀ q : Nat, q < H.size → ¬ va_A wc H.size q → H1[q]? = H[q]?) (hF : ∀ q, va_A wc H.size q → A q) (hP1 : va_P D cl w1 H1) (hD1 : va_D (va_A wc H.size) w1) : va_P D cl (w1 ++ wr) H1 ∧ va_D A (w1 ++ wr) := by
  have hP' := vP_iff.mp (vP_perm sp hP)
  have hD' := vD_iff.mp (vD_perm sp hD)
  have hD1' := vD_iff.mp hD1
  rw [List.map_append, List.nodup_append] at hD'
  have ap : ∀ q ∈ wr, q.1 < H.size ∧ ¬ va_A wc H.size q.1 := fun q hq => by
    have hlt := (hP' q (List.mem_append_right _ hq)).lt
    refine ⟨hlt, fun h => ?_⟩
    rcases h with ⟨k, e, hk⟩ | h
    · exact hD'.1.2.2 q.1 (List.mem_map.mpr ⟨_, List.mem_of_getElem? hk, rfl⟩) q.1 (List.mem_map.mpr ⟨q, hq, rfl⟩) rfl
    · omega
  refine ⟨vP_iff.mpr fun q hq => ?_, vD_iff.mpr ⟨?_, fun q hq => ?_⟩⟩
  · rcases List.mem_append.mp hq with h | h
    · exact vP_iff.mp hP1 q h
    · exact (hP' q (List.mem_append_right _ h)).kept (hk q.1 (ap q h).1 (ap q h).2)
  · rw [List.map_append, List.nodup_append]
    refine ⟨hD1'.1, hD'.1.2.1, fun a ha b hb e => ?_⟩
    obtain ⟨x, hx, rfl⟩ := List.mem_map.mp ha
    obtain ⟨y, hy, rfl⟩ := List.mem_map.mp hb
    exact (ap y hy).2 (e ▸ hD1'.2 x hx)
  · rcases List.mem_append.mp hq with h | h
    · exact hF _ (hD1'.2 q h)
    · exact hD'.2 q (List.mem_append_right _ h)
theorem fF {A : Nat → Prop} {ws wc wr : va_W} {H0 H : Heap} {locs : List Loc} (sp : ws.Perm (wc ++ wr)) (hD : va_D A ws) (hS : va_S A H0 H locs) (hA : ∀ q, H0.size ≤ q → A q) : ∀ q, va_A wc H.size q → A q := by
  intro q h
  have hD' := vD_iff.mp (vD_perm sp hD)
  rcases h with ⟨k, e, hk⟩ | h
  · exact hD'.2 (q, e) (List.mem_append_left _ (List.mem_of_getElem? hk))
  · exact hA q (Nat.le_trans hS.1 h)
-- contracts
def PcW (D : va_G) (cA : Nat → ClassId) (ws : va_W) (sz : Nat) (av : List Value) : Array Value → State → Prop := va_Pc av (fun U => U.heap.size = sz ∧ va_P D vwCl ws U.heap ∧ CK D cA U ∧ va_D (fun _ => True) ws)
theorem PcW.blind {D : va_G} {cA : Nat → ClassId} {ws : va_W} {sz : Nat} {av : List Value} : FrameBlind (PcW D cA ws sz av) := fun a U g mk q => by
  obtain ⟨q0, q1, qP, qK, qD⟩ := q
  exact ⟨q0, q1, qP, CK.vm (u := U) (U := U.calling g mk a) rfl qK, qD⟩
theorem PcW.on {D : va_G} {cA : Nat → ClassId} {ws wc wr : va_W} {A : Nat → Prop} {s : State} {H : Heap} {av : List Value} (sp : ws.Perm (wc ++ wr)) (hK : CK D cA s) (hP : va_P D vwCl ws H) (hD : va_D A ws) : ∀ U : State, U.heap = H → s.WarmedH U.vm → PcW D cA wc H.size av av.toArray U := fun U hU hW => by
  have hP' := vP_iff.mp (vP_perm sp hP)
  have hD' := vD_iff.mp (vD_perm sp hD)
  rw [List.map_append, List.nodup_append] at hD'
  exact ⟨rfl, by rw [hU], by rw [hU]; exact vP_iff.mpr fun q hq => hP' q (List.mem_append_left _ hq), CK.warm hW hK, vD_iff.mpr ⟨hD'.1.1, fun _ _ => trivial⟩⟩
def wQ {S : Type} (D : va_G) (wf : S → va_W) (A : Nat → Prop) (u : S) (t : State) : Prop := va_P D vwCl (wf u) t.heap ∧ va_D A (wf u)
def QI {S : Type} (D : va_G) (wf : S → va_W) (R : Int32 × S) (A : Nat → Prop) := va_Qi (fun r u => r = R.1 ∧ u = R.2) (wQ D wf A) A
def QL {S : Type} (D : va_G) (wf : S → va_W) (R : Int64 × S) (A : Nat → Prop) := va_Ql (fun r u => r = R.1 ∧ u = R.2) (wQ D wf A) A
def QV {S : Type} (D : va_G) (wf : S → va_W) (R : S) (A : Nat → Prop) := va_Qv (fun u => u = R) (wQ D wf A) A
def QQ {S : Type} (D : va_G) (wf : S → va_W) (R : Option Nat × S) (A : Nat → Prop) := va_Qq (fun r u => r = R.1 ∧ u = R.2) (wQ D wf A) A
section GC
variable {p : Program} {l : Launch} {e : Env} {R : Room} {s : State} {m : MethodId} {args : Array Value} {below : List Frame} {meth : Method} {c : Code} {H : Heap} {locs : List Loc} {cells slots : Nat} {Q : State → Prop}
variable {cc : ByteArray} {pc nL : Nat} {ls : Array Slot} {rest As : List Value} {D : va_G} {cA : Nat → ClassId} {A : Nat → Prop} {b : Nat} {own : String} {Ts wsy : List Cond} {y : MethodName} {rm : Room} {ws wc wr ws' : va_W} {st0 : List Value}
theorem gc_i {S : Type} {wf : S → va_W} {Rr : Int32 × S} {a : Array Value} (hr : va_Run p l e R s m args below meth c H locs cells slots 0 0 (F0 m pc ls st0) rest (QI D wf Rr (va_A wc H.size) a) (va_A wc H.size)) (sp : ws.Perm (wc ++ wr)) (hP : va_P D vwCl ws H) (hD : va_D A ws) (hS : va_S A s.heap H locs) (hA : ∀ q, s.heap.size ≤ q → A q) (sp' : ws'.Perm (wf Rr.2 ++ wr))
    (kk : ∀ (H1 : Heap) (locs1 : List Loc), va_P D vwCl ws' H1 → va_D A ws' → va_S A s.heap H1 locs1 → W p l e R s m args below meth c H1 locs1 cells slots Q (F0 m (pc + 3) ls (.int Rr.1 :: rest))) : W p l e R s m args below meth c H locs cells slots Q (F0 m pc ls st0) := by
  have hF := fF sp hD hS hA
  refine va_calli hr hS (fun q _ h => hF q h) hF (fun r u t H1 locs1 ht hvm hw hB hz1 hk1 hS1 => ?_)
  obtain ⟨rfl, rfl⟩ := hw
  obtain ⟨hP1, hD1⟩ := hB
  rw [ht] at hP1
  obtain ⟨hP2, hD2⟩ := fj sp hP hD hk1 hF hP1 hD1
  exact kk H1 locs1 (vP_perm sp'.symm hP2) (vD_perm sp'.symm hD2) hS1
theorem gc_l {S : Type} {wf : S → va_W} {Rr : Int64 × S} {a : Array Value} (hr : va_Run p l e R s m args below meth c H locs cells slots 0 0 (F0 m pc ls st0) rest (QL D wf Rr (va_A wc H.size) a) (va_A wc H.size)) (sp : ws.Perm (wc ++ wr)) (hP : va_P D vwCl ws H) (hD : va_D A ws) (hS : va_S A s.heap H locs) (hA : ∀ q, s.heap.size ≤ q → A q) (sp' : ws'.Perm (wf Rr.2 ++ wr))
    (kk : ∀ (H1 : Heap) (locs1 : List Loc), va_P D vwCl ws' H1 → va_D A ws' → va_S A s.heap H1 locs1 → W p l e R s m args below meth c H1 locs1 cells slots Q (F0 m (pc + 3) ls (.long Rr.1 :: rest))) : W p l e R s m args below meth c H locs cells slots Q (F0 m pc ls st0) := by
  have hF := fF sp hD hS hA
  refine va_calll hr hS (fun q _ h => hF q h) hF (fun r u t H1 locs1 ht hvm hw hB hz1 hk1 hS1 => ?_)
  obtain ⟨rfl, rfl⟩ := hw
  obtain ⟨hP1, hD1⟩ := hB
  rw [ht] at hP1
  obtain ⟨hP2, hD2⟩ := fj sp hP hD hk1 hF hP1 hD1
  exact kk H1 locs1 (vP_perm sp'.symm hP2) (vD_perm sp'.symm hD2) hS1
theorem gc_v {S : Type} {wf : S → va_W} {Rr : S} {a : Array Value} (hr : va_Run p l e R s m args below meth c H locs cells slots 0 0 (F0 m pc ls st0) rest (QV D wf Rr (va_A wc H.size) a) (va_A wc H.size)) (sp : ws.Perm (wc ++ wr)) (hP : va_P D vwCl ws H) (hD : va_D A ws) (hS : va_S A s.heap H locs) (hA : ∀ q, s.heap.size ≤ q → A q) (sp' : ws'.Perm (wf Rr ++ wr))
    (kk : ∀ (H1 : Heap) (locs1 : List Loc), va_P D vwCl ws' H1 → va_D A ws' → va_S A s.heap H1 locs1 → W p l e R s m args below meth c H1 locs1 cells slots Q (F0 m (pc + 3) ls rest)) : W p l e R s m args below meth c H locs cells slots Q (F0 m pc ls st0) := by
  have hF := fF sp hD hS hA
  refine va_callv hr hS (fun q _ h => hF q h) hF (fun u t H1 locs1 ht hvm hw hB hz1 hk1 hS1 => ?_)
  obtain rfl := hw
  obtain ⟨hP1, hD1⟩ := hB
  rw [ht] at hP1
  obtain ⟨hP2, hD2⟩ := fj sp hP hD hk1 hF hP1 hD1
  exact kk H1 locs1 (vP_perm sp'.symm hP2) (vD_perm sp'.symm hD2) hS1
theorem gc_q {S : Type} {wf : S → va_W} {Rr : Option Nat × S} {a : Array Value} (hr : va_Run p l e R s m args below meth c H locs cells slots 0 0 (F0 m pc ls st0) rest (QQ D wf Rr (va_A wc H.size) a) (va_A wc H.size)) (sp : ws.Perm (wc ++ wr)) (hP : va_P D vwCl ws H) (hD : va_D A ws) (hS : va_S A s.heap H locs) (hA : ∀ q, s.heap.size ≤ q → A q) (sp' : ws'.Perm (wf Rr.2 ++ wr))
    (kk : ∀ (H1 : Heap) (locs1 : List Loc), va_P D vwCl ws' H1 → va_D A ws' → va_S A s.heap H1 locs1 → W p l e R s m args below meth c H1 locs1 cells slots Q (F0 m (pc + 3) ls (va_rf Rr.1 :: rest))) : W p l e R s m args below meth c H locs cells slots Q (F0 m pc ls st0) := by
  have hF := fF sp hD hS hA
  refine va_callq hr hS (fun q _ h => hF q h) hF (fun r u t H1 locs1 ht hvm hw hB hz1 hk1 hS1 => ?_)
  obtain ⟨rfl, rfl⟩ := hw
  obtain ⟨hP1, hD1⟩ := hB
  rw [ht] at hP1
  obtain ⟨hP2, hD2⟩ := fj sp hP hD hk1 hF hP1 hD1
  exact kk H1 locs1 (vP_perm sp'.symm hP2) (vD_perm sp'.symm hD2) hS1
/-- the start of a call: the callee's part of the world -/
theorem pre_V {ci q0 : Nat} {q : vw_C} {fs : List Value} (sp : ws.Perm (wc ++ wr)) (hK : CK D cA s) (hP : va_P D vwCl ws H) (hD : va_D A ws) (hc : vwCl[ci]? = some q) (he : wc[q0]? = some (b, .inr (ci, fs))) : PreV s H q.1 b (PcW D cA wc H.size (.ref b :: As)) As := by
  have hP' : va_P D vwCl wc H := vP_iff.mpr fun x hx => vP_iff.mp (vP_perm sp hP) x (List.mem_append_left _ hx)
  exact ⟨PcW.blind, va_recv hK.1 hP' hc he, PcW.on sp hK hP hD⟩
theorem pre_S (sp : ws.Perm (wc ++ wr)) (hK : CK D cA s) (hP : va_P D vwCl ws H) (hD : va_D A ws) : PreS s H (PcW D cA wc H.size As) As := ⟨PcW.blind, PcW.on sp hK hP hD⟩
theorem gt_i {z x : Int32} (h : z = x) (k : W p l e R s m args below meth c H locs cells slots Q (F0 m pc ls (.int z :: rest))) : W p l e R s m args below meth c H locs cells slots Q (F0 m pc ls (.int x :: rest)) := by
  subst h
  exact k
theorem gt_j {z x : Int64} (h : z = x) (k : W p l e R s m args below meth c H locs cells slots Q (F0 m pc ls (.long z :: rest))) : W p l e R s m args below meth c H locs cells slots Q (F0 m pc ls (.long x :: rest)) := by
  subst h
  exact k
theorem pre_0 : PreS s H (fun v _ => v = As.toArray) As := ⟨fun _ _ _ _ q => q, fun _ _ _ => rfl⟩
/-- a switch by a table, a place at a time -/
theorem gs_in {dflt lo hi : Int} {offs : Array Int} {len tgt : Nat} {x : Int32} {off : Int} (v : Int32) (hv : x = v) (hexec : p.tables.exec = Jvm.exec) (hb : c.code = cc) (hdg : decode cc pc = .ok (.tableswitch dflt lo hi offs, len)) (h : (!decide (v.toInt < lo) && !decide (hi < v.toInt) && (offs[(v.toInt - lo).toNat]? == some off)) = true) (ht : (pc : Int) + off = (tgt : Int))
    (k : W p l e R s m args below meth c H locs cells slots Q (F0 m tgt ls rest)) : W p l e R s m args below meth c H locs cells slots Q (F0 m pc ls (.int x :: rest)) := by
  subst hv
  simp only [Bool.and_eq_true, Bool.not_eq_true', decide_eq_false_iff_not, beq_iff_eq] at h
  exact lv_tableIn hexec hb hdg h.1.1 h.1.2 h.2 ht k
end GC
/-- not one of the numbers of a table: outside it -/
theorem gs_out {x : Int32} {lo hi : Int} (n : Nat) (hn : hi = lo + n - 1) (h : ∀ k : Nat, k < n → x.toInt ≠ lo + k) : x.toInt < lo ∨ hi < x.toInt := by
  rcases Int.lt_or_le x.toInt lo with c | c
  · exact Or.inl c
  · refine Or.inr ?_
    rcases Int.lt_or_le hi x.toInt with d | d
    · exact d
    · exact absurd (by omega) (h (x.toInt - lo).toNat (by omega))
theorem gs_ne {x v : Int32} {z : Int} (h : ¬ x = v) (hv : v.toInt = z) : x.toInt ≠ z := fun e => h (Int32.toInt_inj.mp (e.trans hv.symm))
-- the groups of cells
abbrev gB (aB aP aT aM aN : Nat → Nat) (bI : Nat → Int32) : va_W := [(aB 0, .inr (4, [.ref (aP 0), .ref (aT 0), .ref (aM 0), .ref (aN 0), .int (bI 0), .int (bI 1)]))]
abbrev gP (cA : Nat → ClassId) (aP : Nat → Nat) (pI : Nat → Int32) (pA : Nat → Nat → Int32) : va_W := [(aP 0, .inr (3, [.ref (aP 1), .ref (aP 2), .ref (aP 3), .int (pI 0), .int (pI 1), .ref (aP 4), .ref (aP 5), .ref (aP 6), .ref (aP 7), .int (pI 2), .int (pI 3), .int (pI 4)])), (aP 1, .inl (cA 0, 4, .inl (pA 0))), (aP 2, .inl (cA 0, 4, .inl (pA 1))), (aP 3, .inl (cA 1, 4, .inl (pA 2))), (aP 4, .inl (cA 0, 60, .inl (pA 3))), (aP 5, .inl (cA 0, 60, .inl (pA 4))), (aP 6, .inl (cA 0, 60, .inl (pA 5))), (aP 7, .inl (cA 0, 60, .inl (pA 6)))]
abbrev gM (cA : Nat → ClassId) (aM : Nat → Nat) (mI : Nat → Int32) (mJ : Nat → Int64) (mA : Nat → Nat → Int32) : va_W := [(aM 0, .inr (1, [.ref (aM 1), .ref (aM 2), .int (mI 0), .long (mJ 0), .int (mI 1), .long (mJ 1), .long (mJ 2), .long (mJ 3), .long (mJ 4), .int (mI 2), .int (mI 3), .int (mI 4)])), (aM 1, .inl (cA 0, 16, .inl (mA 0))), (aM 2, .inl (cA 0, 8, .inl (mA 1)))]
abbrev gT (cA : Nat → ClassId) (aT : Nat → Nat) (tI : Nat → Int32) (tJ : Nat → Int64) (tP : Nat → Option Nat) (tO : Nat → Int64) (tR : Nat → Int32) : va_W := [(aT 0, .inr (0, [.ref (aT 1), .ref (aT 2), .ref (aT 3), .int (tI 0), .long (tJ 0), .long (tJ 1)])), (aT 1, .inl (cA 3, 40, .inr (.inr (.inr (.inr tP))))), (aT 2, .inl (cA 2, 4096, .inr (.inl tO))), (aT 3, .inl (cA 0, 4096, .inl tR))]
abbrev fQ (qI : Nat → Nat → Int32) (qJ : Nat → Nat → Int64) : Nat → va_E := fun a => .inr (2, [.long (qJ a 0), .long (qJ a 1), .int (qI a 0), .int (qI a 1), .int (qI a 2), .int (qI a 3), .int (qI a 4)])
abbrev gQ (L : List Nat) (qI : Nat → Nat → Int32) (qJ : Nat → Nat → Int64) : va_W := va_pl L (fQ qI qJ)
abbrev gX (cA : Nat → ClassId) (a n : Nat) (x : Nat → Int32) : va_W := [(a, .inl (cA 0, n, .inl x))]
abbrev gR (cA : Nat → ClassId) (aR : Nat → Nat) (rI : Nat → Int32) (rA : Nat → Nat → Int32) (rG : Nat → Option Nat) : va_W := [(aR 0, .inr (5, [.int (rI 0), .int (rI 1), .int (rI 2), .int (rI 3), .int (rI 4), .int (rI 5), .ref (aR 1), .ref (aR 2), .ref (aR 3), .ref (aR 4), .ref (aR 5), .ref (aR 6), .int (rI 6), .ref (aR 7), .ref (aR 8), .ref (aR 9), .ref (aR 10), .ref (aR 11), .ref (aR 12), .ref (aR 13), .ref (aR 14), .ref (aR 15), .ref (aR 16), .ref (aR 17), .ref (aR 18), .int (rI 7), .int (rI 8), .int (rI 9), .int (rI 10), .int (rI 11), .int (rI 12), .int (rI 13), .int (rI 14), .int (rI 15), .int (rI 16), .int (rI 17), .int (rI 18), .ref (aR 19), .ref (aR 20), .int (rI 19)])),
  (aR 1, .inl (cA 0, 4, .inl (rA 0))), (aR 2, .inl (cA 1, 4, .inl (rA 1))), (aR 3, .inl (cA 0, 60, .inl (rA 2))), (aR 4, .inl (cA 0, 60, .inl (rA 3))), (aR 5, .inl (cA 0, 60, .inl (rA 4))), (aR 6, .inl (cA 0, 60, .inl (rA 5))),
  (aR 7, .inl (cA 0, 40, .inl (rA 6))), (aR 8, .inl (cA 0, 40, .inl (rA 7))), (aR 9, .inl (cA 0, 40, .inl (rA 8))), (aR 10, .inl (cA 0, 40, .inl (rA 9))), (aR 11, .inl (cA 1, 40, .inl (rA 10))), (aR 12, .inl (cA 4, 40, .inr (.inr (.inr (.inr rG))))),
  (aR 13, .inl (cA 0, 4096, .inl (rA 11))), (aR 14, .inl (cA 0, 4096, .inl (rA 12))), (aR 15, .inl (cA 1, 60, .inl (rA 13))), (aR 16, .inl (cA 0, 16, .inl (rA 14))), (aR 17, .inl (cA 0, 8, .inl (rA 15))), (aR 18, .inl (cA 0, 60, .inl (rA 16))), (aR 19, .inl (cA 0, 16, .inl (rA 17))), (aR 20, .inl (cA 0, 8, .inl (rA 18)))]
abbrev fR (cA : Nat → ClassId) (rR : Nat → Nat → Int32) : Nat → va_E := fun a => .inl (cA 0, 60, .inl (rR a))
abbrev gG (cA : Nat → ClassId) (L : List Nat) (rR : Nat → Nat → Int32) : va_W := va_pl L (fR cA rR)
theorem fR_up {cA : Nat → ClassId} {rR : Nat → Nat → Int32} {a : Nat} {x : Nat → Int32} : ∀ b, va_up (fR cA rR) a (.inl (cA 0, 60, .inl x)) b = fR cA (va_up rR a x) b := fun b => by
  by_cases h : b = a <;> simp [va_up, h]
theorem fQ_up0 {qI : Nat → Nat → Int32} {qJ : Nat → Nat → Int64} {a : Nat} {v : Int64} : ∀ b, va_up (fQ qI qJ) a (.inr (2, [.long v, .long (qJ a 1), .int (qI a 0), .int (qI a 1), .int (qI a 2), .int (qI a 3), .int (qI a 4)])) b = fQ qI (va_up qJ a (vp_updL (qJ a) 0 v)) b := fun b => by
  by_cases h : b = a <;> simp [va_up, upd, vp_updL, h]
theorem fQ_up1 {qI : Nat → Nat → Int32} {qJ : Nat → Nat → Int64} {a : Nat} {v : Int64} : ∀ b, va_up (fQ qI qJ) a (.inr (2, [.long (qJ a 0), .long v, .int (qI a 0), .int (qI a 1), .int (qI a 2), .int (qI a 3), .int (qI a 4)])) b = fQ qI (va_up qJ a (vp_updL (qJ a) 1 v)) b := fun b => by
  by_cases h : b = a <;> simp [va_up, upd, vp_updL, h]
theorem fQ_up2 {qI : Nat → Nat → Int32} {qJ : Nat → Nat → Int64} {a : Nat} {v : Int32} : ∀ b, va_up (fQ qI qJ) a (.inr (2, [.long (qJ a 0), .long (qJ a 1), .int v, .int (qI a 1), .int (qI a 2), .int (qI a 3), .int (qI a 4)])) b = fQ (va_up qI a (upd (qI a) 0 v)) qJ b := fun b => by
  by_cases h : b = a <;> simp [va_up, upd, vp_updL, h]
theorem fQ_up3 {qI : Nat → Nat → Int32} {qJ : Nat → Nat → Int64} {a : Nat} {v : Int32} : ∀ b, va_up (fQ qI qJ) a (.inr (2, [.long (qJ a 0), .long (qJ a 1), .int (qI a 0), .int v, .int (qI a 2), .int (qI a 3), .int (qI a 4)])) b = fQ (va_up qI a (upd (qI a) 1 v)) qJ b := fun b => by
  by_cases h : b = a <;> simp [va_up, upd, vp_updL, h]
theorem fQ_up4 {qI : Nat → Nat → Int32} {qJ : Nat → Nat → Int64} {a : Nat} {v : Int32} : ∀ b, va_up (fQ qI qJ) a (.inr (2, [.long (qJ a 0), .long (qJ a 1), .int (qI a 0), .int (qI a 1), .int v, .int (qI a 3), .int (qI a 4)])) b = fQ (va_up qI a (upd (qI a) 2 v)) qJ b := fun b => by
  by_cases h : b = a <;> simp [va_up, upd, vp_updL, h]
theorem fQ_up5 {qI : Nat → Nat → Int32} {qJ : Nat → Nat → Int64} {a : Nat} {v : Int32} : ∀ b, va_up (fQ qI qJ) a (.inr (2, [.long (qJ a 0), .long (qJ a 1), .int (qI a 0), .int (qI a 1), .int (qI a 2), .int v, .int (qI a 4)])) b = fQ (va_up qI a (upd (qI a) 3 v)) qJ b := fun b => by
  by_cases h : b = a <;> simp [va_up, upd, vp_updL, h]
theorem fQ_up6 {qI : Nat → Nat → Int32} {qJ : Nat → Nat → Int64} {a : Nat} {v : Int32} : ∀ b, va_up (fQ qI qJ) a (.inr (2, [.long (qJ a 0), .long (qJ a 1), .int (qI a 0), .int (qI a 1), .int (qI a 2), .int (qI a 3), .int v])) b = fQ (va_up qI a (upd (qI a) 4 v)) qJ b := fun b => by
  by_cases h : b = a <;> simp [va_up, upd, vp_updL, h]
