def R_law : String := "SymbolBenchLaw"
def lw_P (b : Addr) (xs : List Int32) (args : Array Value) (s : State) : Prop := args = #[.ref b] ∧ s.IntsAt b xs ∧ xs.length ≤ 2560 ∧ (Jvm.Cond.and given_1 narrow_1).before args s = true
def lw_Q (_ : Array Value) (s : State) (o : Outcome) (t : State) : Prop := o = .returned (some (.int 1)) ∧ Framed s o t [] 600000 7302250
def lw_Z (below : List Frame) (a : Array Value) (s : State) : State → Prop := fun t => ∃ o, t.status = .running ∧ Ended t below o ∧ lw_Q a s o t
/-- the law's own end, with 1 on the stack, nothing written that was there before, its room as the claim has it -/
theorem lw_ret {p : Program} {l : Launch} {e : Env} {s : State} {m : MethodId} {below : List Frame} {meth : Method} {c : Code} {b : Nat} (hx : p.tables.exec = Jvm.exec) (hb : c.code = code) (hr : meth.sig.returnType = ret) (hlocks : meth.locks = false) {pc : Nat} {H : Heap} {ls : Array Slot} (hdg : decode code pc = .ok (.ireturn, 1)) : W p l e room_1 s m #[Value.ref b] below meth c H [] 600000 7302250 (lw_Z below #[Value.ref b] s) (F0 m pc ls [.int 1]) := by
  intro T hT X
  obtain ⟨fs, hret, hrun, hended, hW, hframe⟩ := X.leave (v := some (.int 1)) (hlocks := hlocks) (fun h => by rw [hr] at h; cases h)
  have hmeth' : T.vm.method? m = some meth := X.method'
  refine ⟨T.setFrames fs, ?_, .returned (some (.int 1)), hrun, hended, rfl, ⟨_, rfl⟩, hW, hframe⟩
  jvm_step X.here [X.here.top, hx, hb, hdg, hmeth', hr, ret, narrow_b1]
  (try refine ⟨rfl, ?_⟩); (try refine ⟨rfl, ?_⟩)
  first | (intro acts; rw [hret _ acts rfl rfl rfl]) | rw [hret _ _ rfl rfl rfl]
  exact Steps.refl _
/-- what holds at the law's entry: the machine, the code, the tables' words (any of lw_tbl by 'hts w (by decide +kernel)'), the script of L ints xs at the cell b, what the Statement gives of the start (any of its parts by flat_of_before) -/
def lw_At (p : Program) (s : State) (m : MethodId) (meth : Method) (c : Code) (b L : Nat) (xs : Nat → Int32) : Prop :=
  p.tables.exec = Jvm.exec ∧ c.code = code ∧ meth.sig.returnType = ret ∧ c.maxLocals = 4 ∧ s.vm.findClass R_law = some m.cls ∧ (∀ w ∈ lw_tbl, w.before #[Value.ref b] s = true) ∧ va_X b L xs s s.heap ∧ b < s.heap.size ∧ meth.locks = false ∧ (Jvm.Cond.and given_1 narrow_1).before #[Value.ref b] s = true

set_option maxRecDepth 20000 in
theorem lk_4_input : Cond.methodLink RL 13 yX4_input ∈ wsL_law := ml 252 (by decide +kernel) (by decide +kernel)
set_option maxRecDepth 20000 in
theorem li_4_input : Cond.instanceMethod yX4_input ∈ wsL_law := ml 253 (by decide +kernel) (by decide +kernel)
set_option maxRecDepth 20000 in
theorem ls_4_input : Cond.selects RX4 yX4_input yX4_input ∈ wsL_law := ml 254 (by decide +kernel) (by decide +kernel)
set_option maxRecDepth 20000 in
theorem lc_4_input : Cond.code yX4_input cX4_input 4 (some .int) ∈ wsL_law := ml 255 rfl (by decide +kernel)
set_option maxRecDepth 20000 in
theorem lg_4_input : GoodIn wsL_law (wsV RL 13 RX4 yX4_input (wsU yX4_input cX4_input 4 (some .int))) := gwV lk_4_input li_4_input ls_4_input ini_RX4 lc_4_input
set_option maxRecDepth 20000 in
theorem lk_4_tell : Cond.methodLink RL 18 yX4_tell ∈ wsL_law := ml 268 (by decide +kernel) (by decide +kernel)
set_option maxRecDepth 20000 in
theorem li_4_tell : Cond.instanceMethod yX4_tell ∈ wsL_law := ml 269 (by decide +kernel) (by decide +kernel)
set_option maxRecDepth 20000 in
theorem ls_4_tell : Cond.selects RX4 yX4_tell yX4_tell ∈ wsL_law := ml 270 (by decide +kernel) (by decide +kernel)
set_option maxRecDepth 20000 in
theorem lc_4_tell : Cond.code yX4_tell cX4_tell 6 (some .int) ∈ wsL_law := ml 271 rfl (by decide +kernel)
set_option maxRecDepth 20000 in
theorem lg_4_tell : GoodIn wsL_law (wsV RL 18 RX4 yX4_tell (wsU yX4_tell cX4_tell 6 (some .int))) := gwV lk_4_tell li_4_tell ls_4_tell ini_RX4 lc_4_tell
set_option maxRecDepth 20000 in
theorem lk_4_clear : Cond.methodLink RL 23 yX4_clear ∈ wsL_law := ml 297 (by decide +kernel) (by decide +kernel)
set_option maxRecDepth 20000 in
theorem li_4_clear : Cond.instanceMethod yX4_clear ∈ wsL_law := ml 298 (by decide +kernel) (by decide +kernel)
set_option maxRecDepth 20000 in
theorem ls_4_clear : Cond.selects RX4 yX4_clear yX4_clear ∈ wsL_law := ml 299 (by decide +kernel) (by decide +kernel)
set_option maxRecDepth 20000 in
theorem lc_4_clear : Cond.code yX4_clear cX4_clear 2 (some .int) ∈ wsL_law := ml 300 rfl (by decide +kernel)
set_option maxRecDepth 20000 in
theorem lg_4_clear : GoodIn wsL_law (wsV RL 23 RX4 yX4_clear (wsU yX4_clear cX4_clear 2 (some .int))) := gwV lk_4_clear li_4_clear ls_4_clear ini_RX4 lc_4_clear
set_option maxRecDepth 20000 in
theorem lk_4_explore : Cond.methodLink RL 28 yX4_explore ∈ wsL_law := ml 305 (by decide +kernel) (by decide +kernel)
set_option maxRecDepth 20000 in
theorem li_4_explore : Cond.instanceMethod yX4_explore ∈ wsL_law := ml 306 (by decide +kernel) (by decide +kernel)
set_option maxRecDepth 20000 in
theorem ls_4_explore : Cond.selects RX4 yX4_explore yX4_explore ∈ wsL_law := ml 307 (by decide +kernel) (by decide +kernel)
set_option maxRecDepth 20000 in
theorem lc_4_explore : Cond.code yX4_explore cX4_explore 1 (some .int) ∈ wsL_law := ml 308 rfl (by decide +kernel)
set_option maxRecDepth 20000 in
theorem lg_4_explore : GoodIn wsL_law (wsV RL 28 RX4 yX4_explore (wsU yX4_explore cX4_explore 1 (some .int))) := gwV lk_4_explore li_4_explore ls_4_explore ini_RX4 lc_4_explore
set_option maxRecDepth 20000 in
theorem lk_4_path : Cond.methodLink RL 32 yX4_path ∈ wsL_law := ml 404 (by decide +kernel) (by decide +kernel)
set_option maxRecDepth 20000 in
theorem li_4_path : Cond.instanceMethod yX4_path ∈ wsL_law := ml 405 (by decide +kernel) (by decide +kernel)
set_option maxRecDepth 20000 in
theorem ls_4_path : Cond.selects RX4 yX4_path yX4_path ∈ wsL_law := ml 406 (by decide +kernel) (by decide +kernel)
set_option maxRecDepth 20000 in
theorem lc_4_path : Cond.code yX4_path cX4_path 4 (some .int) ∈ wsL_law := ml 407 rfl (by decide +kernel)
set_option maxRecDepth 20000 in
theorem lg_4_path : GoodIn wsL_law (wsV RL 32 RX4 yX4_path (wsU yX4_path cX4_path 4 (some .int))) := gwV lk_4_path li_4_path ls_4_path ini_RX4 lc_4_path
set_option maxRecDepth 20000 in
theorem lk_4_decision : Cond.methodLink RL 37 yX4_decision ∈ wsL_law := ml 418 (by decide +kernel) (by decide +kernel)
set_option maxRecDepth 20000 in
theorem li_4_decision : Cond.instanceMethod yX4_decision ∈ wsL_law := ml 419 (by decide +kernel) (by decide +kernel)
set_option maxRecDepth 20000 in
theorem ls_4_decision : Cond.selects RX4 yX4_decision yX4_decision ∈ wsL_law := ml 420 (by decide +kernel) (by decide +kernel)
set_option maxRecDepth 20000 in
theorem lc_4_decision : Cond.code yX4_decision cX4_decision 5 (some .int) ∈ wsL_law := ml 421 rfl (by decide +kernel)
set_option maxRecDepth 20000 in
theorem lg_4_decision : GoodIn wsL_law (wsV RL 37 RX4 yX4_decision (wsU yX4_decision cX4_decision 5 (some .int))) := gwV lk_4_decision li_4_decision ls_4_decision ini_RX4 lc_4_decision
set_option maxRecDepth 20000 in
theorem lk_4_holds : Cond.methodLink RL 41 yX4_holds ∈ wsL_law := ml 429 (by decide +kernel) (by decide +kernel)
set_option maxRecDepth 20000 in
theorem li_4_holds : Cond.instanceMethod yX4_holds ∈ wsL_law := ml 430 (by decide +kernel) (by decide +kernel)
set_option maxRecDepth 20000 in
theorem ls_4_holds : Cond.selects RX4 yX4_holds yX4_holds ∈ wsL_law := ml 431 (by decide +kernel) (by decide +kernel)
set_option maxRecDepth 20000 in
theorem lc_4_holds : Cond.code yX4_holds cX4_holds 4 (some .int) ∈ wsL_law := ml 432 rfl (by decide +kernel)
set_option maxRecDepth 20000 in
theorem lg_4_holds : GoodIn wsL_law (wsV RL 41 RX4 yX4_holds (wsU yX4_holds cX4_holds 4 (some .int))) := gwV lk_4_holds li_4_holds ls_4_holds ini_RX4 lc_4_holds
set_option maxRecDepth 20000 in
theorem lk_4_value : Cond.methodLink RL 45 yX4_value ∈ wsL_law := ml 442 (by decide +kernel) (by decide +kernel)
set_option maxRecDepth 20000 in
theorem li_4_value : Cond.instanceMethod yX4_value ∈ wsL_law := ml 443 (by decide +kernel) (by decide +kernel)
set_option maxRecDepth 20000 in
theorem ls_4_value : Cond.selects RX4 yX4_value yX4_value ∈ wsL_law := ml 444 (by decide +kernel) (by decide +kernel)
set_option maxRecDepth 20000 in
theorem lc_4_value : Cond.code yX4_value cX4_value 4 (some .int) ∈ wsL_law := ml 445 rfl (by decide +kernel)
set_option maxRecDepth 20000 in
theorem lg_4_value : GoodIn wsL_law (wsV RL 45 RX4 yX4_value (wsU yX4_value cX4_value 4 (some .int))) := gwV lk_4_value li_4_value ls_4_value ini_RX4 lc_4_value
set_option maxRecDepth 20000 in
theorem lk_4_find : Cond.methodLink RL 49 yX4_find ∈ wsL_law := ml 447 (by decide +kernel) (by decide +kernel)
set_option maxRecDepth 20000 in
theorem li_4_find : Cond.instanceMethod yX4_find ∈ wsL_law := ml 448 (by decide +kernel) (by decide +kernel)
set_option maxRecDepth 20000 in
theorem ls_4_find : Cond.selects RX4 yX4_find yX4_find ∈ wsL_law := ml 449 (by decide +kernel) (by decide +kernel)
set_option maxRecDepth 20000 in
theorem lc_4_find : Cond.code yX4_find cX4_find 5 (some .int) ∈ wsL_law := ml 450 rfl (by decide +kernel)
set_option maxRecDepth 20000 in
theorem lg_4_find : GoodIn wsL_law (wsV RL 49 RX4 yX4_find (wsU yX4_find cX4_find 5 (some .int))) := gwV lk_4_find li_4_find ls_4_find ini_RX4 lc_4_find
set_option maxRecDepth 20000 in
theorem lk_4_run : Cond.methodLink RL 54 yX4_run ∈ wsL_law := ml 461 (by decide +kernel) (by decide +kernel)
set_option maxRecDepth 20000 in
theorem li_4_run : Cond.instanceMethod yX4_run ∈ wsL_law := ml 462 (by decide +kernel) (by decide +kernel)
set_option maxRecDepth 20000 in
theorem ls_4_run : Cond.selects RX4 yX4_run yX4_run ∈ wsL_law := ml 463 (by decide +kernel) (by decide +kernel)
set_option maxRecDepth 20000 in
theorem lc_4_run : Cond.code yX4_run cX4_run 2 (some .int) ∈ wsL_law := ml 464 rfl (by decide +kernel)
set_option maxRecDepth 20000 in
theorem lg_4_run : GoodIn wsL_law (wsV RL 54 RX4 yX4_run (wsU yX4_run cX4_run 2 (some .int))) := gwV lk_4_run li_4_run ls_4_run ini_RX4 lc_4_run
set_option maxRecDepth 20000 in
theorem lk_4_ran : Cond.methodLink RL 59 yX4_ran ∈ wsL_law := ml 465 (by decide +kernel) (by decide +kernel)
set_option maxRecDepth 20000 in
theorem li_4_ran : Cond.instanceMethod yX4_ran ∈ wsL_law := ml 466 (by decide +kernel) (by decide +kernel)
set_option maxRecDepth 20000 in
theorem ls_4_ran : Cond.selects RX4 yX4_ran yX4_ran ∈ wsL_law := ml 467 (by decide +kernel) (by decide +kernel)
set_option maxRecDepth 20000 in
theorem lc_4_ran : Cond.code yX4_ran cX4_ran 2 (some .int) ∈ wsL_law := ml 468 rfl (by decide +kernel)
set_option maxRecDepth 20000 in
theorem lg_4_ran : GoodIn wsL_law (wsV RL 59 RX4 yX4_ran (wsU yX4_ran cX4_ran 2 (some .int))) := gwV lk_4_ran li_4_ran ls_4_ran ini_RX4 lc_4_ran
set_option maxRecDepth 20000 in
theorem lk_4_register : Cond.methodLink RL 63 yX4_register ∈ wsL_law := ml 473 (by decide +kernel) (by decide +kernel)
set_option maxRecDepth 20000 in
theorem li_4_register : Cond.instanceMethod yX4_register ∈ wsL_law := ml 474 (by decide +kernel) (by decide +kernel)
set_option maxRecDepth 20000 in
theorem ls_4_register : Cond.selects RX4 yX4_register yX4_register ∈ wsL_law := ml 475 (by decide +kernel) (by decide +kernel)
set_option maxRecDepth 20000 in
theorem lc_4_register : Cond.code yX4_register cX4_register 2 (some .int) ∈ wsL_law := ml 476 rfl (by decide +kernel)
set_option maxRecDepth 20000 in
theorem lg_4_register : GoodIn wsL_law (wsV RL 63 RX4 yX4_register (wsU yX4_register cX4_register 2 (some .int))) := gwV lk_4_register li_4_register ls_4_register ini_RX4 lc_4_register
set_option maxRecDepth 20000 in
theorem lk_4_cell : Cond.methodLink RL 67 yX4_cell ∈ wsL_law := ml 478 (by decide +kernel) (by decide +kernel)
set_option maxRecDepth 20000 in
theorem li_4_cell : Cond.instanceMethod yX4_cell ∈ wsL_law := ml 479 (by decide +kernel) (by decide +kernel)
set_option maxRecDepth 20000 in
theorem ls_4_cell : Cond.selects RX4 yX4_cell yX4_cell ∈ wsL_law := ml 480 (by decide +kernel) (by decide +kernel)
set_option maxRecDepth 20000 in
theorem lc_4_cell : Cond.code yX4_cell cX4_cell 2 (some .int) ∈ wsL_law := ml 481 rfl (by decide +kernel)
set_option maxRecDepth 20000 in
theorem lg_4_cell : GoodIn wsL_law (wsV RL 67 RX4 yX4_cell (wsU yX4_cell cX4_cell 2 (some .int))) := gwV lk_4_cell li_4_cell ls_4_cell ini_RX4 lc_4_cell
set_option maxRecDepth 20000 in
theorem lk_4_failure : Cond.methodLink RL 71 yX4_failure ∈ wsL_law := ml 483 (by decide +kernel) (by decide +kernel)
set_option maxRecDepth 20000 in
theorem li_4_failure : Cond.instanceMethod yX4_failure ∈ wsL_law := ml 484 (by decide +kernel) (by decide +kernel)
set_option maxRecDepth 20000 in
theorem ls_4_failure : Cond.selects RX4 yX4_failure yX4_failure ∈ wsL_law := ml 485 (by decide +kernel) (by decide +kernel)
set_option maxRecDepth 20000 in
theorem lc_4_failure : Cond.code yX4_failure cX4_failure 4 (some .int) ∈ wsL_law := ml 486 rfl (by decide +kernel)
set_option maxRecDepth 20000 in
theorem lg_4_failure : GoodIn wsL_law (wsV RL 71 RX4 yX4_failure (wsU yX4_failure cX4_failure 4 (some .int))) := gwV lk_4_failure li_4_failure ls_4_failure ini_RX4 lc_4_failure
set_option maxRecDepth 20000 in
theorem lk_4_covered : Cond.methodLink RL 75 yX4_covered ∈ wsL_law := ml 492 (by decide +kernel) (by decide +kernel)
set_option maxRecDepth 20000 in
theorem li_4_covered : Cond.instanceMethod yX4_covered ∈ wsL_law := ml 493 (by decide +kernel) (by decide +kernel)
set_option maxRecDepth 20000 in
theorem ls_4_covered : Cond.selects RX4 yX4_covered yX4_covered ∈ wsL_law := ml 494 (by decide +kernel) (by decide +kernel)
set_option maxRecDepth 20000 in
theorem lc_4_covered : Cond.code yX4_covered cX4_covered 2 (some .int) ∈ wsL_law := ml 495 rfl (by decide +kernel)
set_option maxRecDepth 20000 in
theorem lg_4_covered : GoodIn wsL_law (wsV RL 75 RX4 yX4_covered (wsU yX4_covered cX4_covered 2 (some .int))) := gwV lk_4_covered li_4_covered ls_4_covered ini_RX4 lc_4_covered
set_option maxRecDepth 20000 in
theorem lk_4_count : Cond.methodLink RL 79 yX4_count ∈ wsL_law := ml 496 (by decide +kernel) (by decide +kernel)
set_option maxRecDepth 20000 in
theorem li_4_count : Cond.instanceMethod yX4_count ∈ wsL_law := ml 497 (by decide +kernel) (by decide +kernel)
set_option maxRecDepth 20000 in
theorem ls_4_count : Cond.selects RX4 yX4_count yX4_count ∈ wsL_law := ml 498 (by decide +kernel) (by decide +kernel)
set_option maxRecDepth 20000 in
theorem lc_4_count : Cond.code yX4_count cX4_count 2 (some .int) ∈ wsL_law := ml 499 rfl (by decide +kernel)
set_option maxRecDepth 20000 in
theorem lg_4_count : GoodIn wsL_law (wsV RL 79 RX4 yX4_count (wsU yX4_count cX4_count 2 (some .int))) := gwV lk_4_count li_4_count ls_4_count ini_RX4 lc_4_count
set_option maxRecDepth 20000 in
theorem lk_5_input : Cond.methodLink RL 17 yX5_input ∈ wsL_law := ml 628 (by decide +kernel) (by decide +kernel)
set_option maxRecDepth 20000 in
theorem li_5_input : Cond.instanceMethod yX5_input ∈ wsL_law := ml 629 (by decide +kernel) (by decide +kernel)
set_option maxRecDepth 20000 in
theorem ls_5_input : Cond.selects RX5 yX5_input yX5_input ∈ wsL_law := ml 630 (by decide +kernel) (by decide +kernel)
set_option maxRecDepth 20000 in
theorem lc_5_input : Cond.code yX5_input cX5_input 3 (some .int) ∈ wsL_law := ml 631 rfl (by decide +kernel)
set_option maxRecDepth 20000 in
theorem lg_5_input : GoodIn wsL_law (wsV RL 17 RX5 yX5_input (wsU yX5_input cX5_input 3 (some .int))) := gwV lk_5_input li_5_input ls_5_input ini_RX5 lc_5_input
set_option maxRecDepth 20000 in
theorem lk_5_tell : Cond.methodLink RL 22 yX5_tell ∈ wsL_law := ml 636 (by decide +kernel) (by decide +kernel)
set_option maxRecDepth 20000 in
theorem li_5_tell : Cond.instanceMethod yX5_tell ∈ wsL_law := ml 637 (by decide +kernel) (by decide +kernel)
set_option maxRecDepth 20000 in
theorem ls_5_tell : Cond.selects RX5 yX5_tell yX5_tell ∈ wsL_law := ml 638 (by decide +kernel) (by decide +kernel)
set_option maxRecDepth 20000 in
theorem lc_5_tell : Cond.code yX5_tell cX5_tell 5 (some .int) ∈ wsL_law := ml 639 rfl (by decide +kernel)
set_option maxRecDepth 20000 in
theorem lg_5_tell : GoodIn wsL_law (wsV RL 22 RX5 yX5_tell (wsU yX5_tell cX5_tell 5 (some .int))) := gwV lk_5_tell li_5_tell ls_5_tell ini_RX5 lc_5_tell
set_option maxRecDepth 20000 in
theorem lk_5_clear : Cond.methodLink RL 27 yX5_clear ∈ wsL_law := ml 654 (by decide +kernel) (by decide +kernel)
set_option maxRecDepth 20000 in
theorem li_5_clear : Cond.instanceMethod yX5_clear ∈ wsL_law := ml 655 (by decide +kernel) (by decide +kernel)
set_option maxRecDepth 20000 in
theorem ls_5_clear : Cond.selects RX5 yX5_clear yX5_clear ∈ wsL_law := ml 656 (by decide +kernel) (by decide +kernel)
set_option maxRecDepth 20000 in
theorem lc_5_clear : Cond.code yX5_clear cX5_clear 2 (some .int) ∈ wsL_law := ml 657 rfl (by decide +kernel)
set_option maxRecDepth 20000 in
theorem lg_5_clear : GoodIn wsL_law (wsV RL 27 RX5 yX5_clear (wsU yX5_clear cX5_clear 2 (some .int))) := gwV lk_5_clear li_5_clear ls_5_clear ini_RX5 lc_5_clear
set_option maxRecDepth 20000 in
theorem lk_5_explore : Cond.methodLink RL 31 yX5_explore ∈ wsL_law := ml 658 (by decide +kernel) (by decide +kernel)
set_option maxRecDepth 20000 in
theorem li_5_explore : Cond.instanceMethod yX5_explore ∈ wsL_law := ml 659 (by decide +kernel) (by decide +kernel)
set_option maxRecDepth 20000 in
theorem ls_5_explore : Cond.selects RX5 yX5_explore yX5_explore ∈ wsL_law := ml 660 (by decide +kernel) (by decide +kernel)
set_option maxRecDepth 20000 in
theorem lc_5_explore : Cond.code yX5_explore cX5_explore 5 (some .int) ∈ wsL_law := ml 661 rfl (by decide +kernel)
set_option maxRecDepth 20000 in
theorem lg_5_explore : GoodIn wsL_law (wsV RL 31 RX5 yX5_explore (wsU yX5_explore cX5_explore 5 (some .int))) := gwV lk_5_explore li_5_explore ls_5_explore ini_RX5 lc_5_explore
set_option maxRecDepth 20000 in
theorem lk_5_path : Cond.methodLink RL 36 yX5_path ∈ wsL_law := ml 711 (by decide +kernel) (by decide +kernel)
set_option maxRecDepth 20000 in
theorem li_5_path : Cond.instanceMethod yX5_path ∈ wsL_law := ml 712 (by decide +kernel) (by decide +kernel)
set_option maxRecDepth 20000 in
theorem ls_5_path : Cond.selects RX5 yX5_path yX5_path ∈ wsL_law := ml 713 (by decide +kernel) (by decide +kernel)
set_option maxRecDepth 20000 in
theorem lc_5_path : Cond.code yX5_path cX5_path 3 (some .int) ∈ wsL_law := ml 714 rfl (by decide +kernel)
set_option maxRecDepth 20000 in
theorem lg_5_path : GoodIn wsL_law (wsV RL 36 RX5 yX5_path (wsU yX5_path cX5_path 3 (some .int))) := gwV lk_5_path li_5_path ls_5_path ini_RX5 lc_5_path
set_option maxRecDepth 20000 in
theorem lk_5_decision : Cond.methodLink RL 40 yX5_decision ∈ wsL_law := ml 719 (by decide +kernel) (by decide +kernel)
set_option maxRecDepth 20000 in
theorem li_5_decision : Cond.instanceMethod yX5_decision ∈ wsL_law := ml 720 (by decide +kernel) (by decide +kernel)
set_option maxRecDepth 20000 in
theorem ls_5_decision : Cond.selects RX5 yX5_decision yX5_decision ∈ wsL_law := ml 721 (by decide +kernel) (by decide +kernel)
set_option maxRecDepth 20000 in
theorem lc_5_decision : Cond.code yX5_decision cX5_decision 3 (some .int) ∈ wsL_law := ml 722 rfl (by decide +kernel)
set_option maxRecDepth 20000 in
theorem lg_5_decision : GoodIn wsL_law (wsV RL 40 RX5 yX5_decision (wsU yX5_decision cX5_decision 3 (some .int))) := gwV lk_5_decision li_5_decision ls_5_decision ini_RX5 lc_5_decision
set_option maxRecDepth 20000 in
theorem lk_5_holds : Cond.methodLink RL 44 yX5_holds ∈ wsL_law := ml 723 (by decide +kernel) (by decide +kernel)
set_option maxRecDepth 20000 in
theorem li_5_holds : Cond.instanceMethod yX5_holds ∈ wsL_law := ml 724 (by decide +kernel) (by decide +kernel)
set_option maxRecDepth 20000 in
theorem ls_5_holds : Cond.selects RX5 yX5_holds yX5_holds ∈ wsL_law := ml 725 (by decide +kernel) (by decide +kernel)
set_option maxRecDepth 20000 in
theorem lc_5_holds : Cond.code yX5_holds cX5_holds 3 (some .int) ∈ wsL_law := ml 726 rfl (by decide +kernel)
set_option maxRecDepth 20000 in
theorem lg_5_holds : GoodIn wsL_law (wsV RL 44 RX5 yX5_holds (wsU yX5_holds cX5_holds 3 (some .int))) := gwV lk_5_holds li_5_holds ls_5_holds ini_RX5 lc_5_holds
set_option maxRecDepth 20000 in
theorem lk_5_value : Cond.methodLink RL 48 yX5_value ∈ wsL_law := ml 731 (by decide +kernel) (by decide +kernel)
set_option maxRecDepth 20000 in
theorem li_5_value : Cond.instanceMethod yX5_value ∈ wsL_law := ml 732 (by decide +kernel) (by decide +kernel)
set_option maxRecDepth 20000 in
theorem ls_5_value : Cond.selects RX5 yX5_value yX5_value ∈ wsL_law := ml 733 (by decide +kernel) (by decide +kernel)
set_option maxRecDepth 20000 in
theorem lc_5_value : Cond.code yX5_value cX5_value 3 (some .int) ∈ wsL_law := ml 734 rfl (by decide +kernel)
set_option maxRecDepth 20000 in
theorem lg_5_value : GoodIn wsL_law (wsV RL 48 RX5 yX5_value (wsU yX5_value cX5_value 3 (some .int))) := gwV lk_5_value li_5_value ls_5_value ini_RX5 lc_5_value
set_option maxRecDepth 20000 in
theorem lk_5_find : Cond.methodLink RL 53 yX5_find ∈ wsL_law := ml 735 (by decide +kernel) (by decide +kernel)
set_option maxRecDepth 20000 in
theorem li_5_find : Cond.instanceMethod yX5_find ∈ wsL_law := ml 736 (by decide +kernel) (by decide +kernel)
set_option maxRecDepth 20000 in
theorem ls_5_find : Cond.selects RX5 yX5_find yX5_find ∈ wsL_law := ml 737 (by decide +kernel) (by decide +kernel)
set_option maxRecDepth 20000 in
theorem lc_5_find : Cond.code yX5_find cX5_find 6 (some .int) ∈ wsL_law := ml 738 rfl (by decide +kernel)
set_option maxRecDepth 20000 in
theorem lg_5_find : GoodIn wsL_law (wsV RL 53 RX5 yX5_find (wsU yX5_find cX5_find 6 (some .int))) := gwV lk_5_find li_5_find ls_5_find ini_RX5 lc_5_find
set_option maxRecDepth 20000 in
theorem lk_5_run : Cond.methodLink RL 58 yX5_run ∈ wsL_law := ml 739 (by decide +kernel) (by decide +kernel)
set_option maxRecDepth 20000 in
theorem li_5_run : Cond.instanceMethod yX5_run ∈ wsL_law := ml 740 (by decide +kernel) (by decide +kernel)
set_option maxRecDepth 20000 in
theorem ls_5_run : Cond.selects RX5 yX5_run yX5_run ∈ wsL_law := ml 741 (by decide +kernel) (by decide +kernel)
set_option maxRecDepth 20000 in
theorem lc_5_run : Cond.code yX5_run cX5_run 3 (some .int) ∈ wsL_law := ml 742 rfl (by decide +kernel)
set_option maxRecDepth 20000 in
theorem lg_5_run : GoodIn wsL_law (wsV RL 58 RX5 yX5_run (wsU yX5_run cX5_run 3 (some .int))) := gwV lk_5_run li_5_run ls_5_run ini_RX5 lc_5_run
set_option maxRecDepth 20000 in
theorem lk_5_ran : Cond.methodLink RL 62 yX5_ran ∈ wsL_law := ml 743 (by decide +kernel) (by decide +kernel)
set_option maxRecDepth 20000 in
theorem li_5_ran : Cond.instanceMethod yX5_ran ∈ wsL_law := ml 744 (by decide +kernel) (by decide +kernel)
set_option maxRecDepth 20000 in
theorem ls_5_ran : Cond.selects RX5 yX5_ran yX5_ran ∈ wsL_law := ml 745 (by decide +kernel) (by decide +kernel)
set_option maxRecDepth 20000 in
theorem lc_5_ran : Cond.code yX5_ran cX5_ran 2 (some .int) ∈ wsL_law := ml 746 rfl (by decide +kernel)
set_option maxRecDepth 20000 in
theorem lg_5_ran : GoodIn wsL_law (wsV RL 62 RX5 yX5_ran (wsU yX5_ran cX5_ran 2 (some .int))) := gwV lk_5_ran li_5_ran ls_5_ran ini_RX5 lc_5_ran
set_option maxRecDepth 20000 in
theorem lk_5_register : Cond.methodLink RL 66 yX5_register ∈ wsL_law := ml 747 (by decide +kernel) (by decide +kernel)
set_option maxRecDepth 20000 in
theorem li_5_register : Cond.instanceMethod yX5_register ∈ wsL_law := ml 748 (by decide +kernel) (by decide +kernel)
set_option maxRecDepth 20000 in
theorem ls_5_register : Cond.selects RX5 yX5_register yX5_register ∈ wsL_law := ml 749 (by decide +kernel) (by decide +kernel)
set_option maxRecDepth 20000 in
theorem lc_5_register : Cond.code yX5_register cX5_register 2 (some .int) ∈ wsL_law := ml 750 rfl (by decide +kernel)
set_option maxRecDepth 20000 in
theorem lg_5_register : GoodIn wsL_law (wsV RL 66 RX5 yX5_register (wsU yX5_register cX5_register 2 (some .int))) := gwV lk_5_register li_5_register ls_5_register ini_RX5 lc_5_register
set_option maxRecDepth 20000 in
theorem lk_5_cell : Cond.methodLink RL 70 yX5_cell ∈ wsL_law := ml 751 (by decide +kernel) (by decide +kernel)
set_option maxRecDepth 20000 in
theorem li_5_cell : Cond.instanceMethod yX5_cell ∈ wsL_law := ml 752 (by decide +kernel) (by decide +kernel)
set_option maxRecDepth 20000 in
theorem ls_5_cell : Cond.selects RX5 yX5_cell yX5_cell ∈ wsL_law := ml 753 (by decide +kernel) (by decide +kernel)
set_option maxRecDepth 20000 in
theorem lc_5_cell : Cond.code yX5_cell cX5_cell 2 (some .int) ∈ wsL_law := ml 754 rfl (by decide +kernel)
set_option maxRecDepth 20000 in
theorem lg_5_cell : GoodIn wsL_law (wsV RL 70 RX5 yX5_cell (wsU yX5_cell cX5_cell 2 (some .int))) := gwV lk_5_cell li_5_cell ls_5_cell ini_RX5 lc_5_cell
set_option maxRecDepth 20000 in
theorem lk_5_failure : Cond.methodLink RL 74 yX5_failure ∈ wsL_law := ml 755 (by decide +kernel) (by decide +kernel)
set_option maxRecDepth 20000 in
theorem li_5_failure : Cond.instanceMethod yX5_failure ∈ wsL_law := ml 756 (by decide +kernel) (by decide +kernel)
set_option maxRecDepth 20000 in
theorem ls_5_failure : Cond.selects RX5 yX5_failure yX5_failure ∈ wsL_law := ml 757 (by decide +kernel) (by decide +kernel)
set_option maxRecDepth 20000 in
theorem lc_5_failure : Cond.code yX5_failure cX5_failure 7 (some .int) ∈ wsL_law := ml 758 rfl (by decide +kernel)
set_option maxRecDepth 20000 in
theorem lg_5_failure : GoodIn wsL_law (wsV RL 74 RX5 yX5_failure (wsU yX5_failure cX5_failure 7 (some .int))) := gwV lk_5_failure li_5_failure ls_5_failure ini_RX5 lc_5_failure
set_option maxRecDepth 20000 in
theorem lk_5_covered : Cond.methodLink RL 78 yX5_covered ∈ wsL_law := ml 763 (by decide +kernel) (by decide +kernel)
set_option maxRecDepth 20000 in
theorem li_5_covered : Cond.instanceMethod yX5_covered ∈ wsL_law := ml 764 (by decide +kernel) (by decide +kernel)
set_option maxRecDepth 20000 in
theorem ls_5_covered : Cond.selects RX5 yX5_covered yX5_covered ∈ wsL_law := ml 765 (by decide +kernel) (by decide +kernel)
set_option maxRecDepth 20000 in
theorem lc_5_covered : Cond.code yX5_covered cX5_covered 2 (some .int) ∈ wsL_law := ml 766 rfl (by decide +kernel)
set_option maxRecDepth 20000 in
theorem lg_5_covered : GoodIn wsL_law (wsV RL 78 RX5 yX5_covered (wsU yX5_covered cX5_covered 2 (some .int))) := gwV lk_5_covered li_5_covered ls_5_covered ini_RX5 lc_5_covered
set_option maxRecDepth 20000 in
theorem lk_5_count : Cond.methodLink RL 82 yX5_count ∈ wsL_law := ml 767 (by decide +kernel) (by decide +kernel)
set_option maxRecDepth 20000 in
theorem li_5_count : Cond.instanceMethod yX5_count ∈ wsL_law := ml 768 (by decide +kernel) (by decide +kernel)
set_option maxRecDepth 20000 in
theorem ls_5_count : Cond.selects RX5 yX5_count yX5_count ∈ wsL_law := ml 769 (by decide +kernel) (by decide +kernel)
set_option maxRecDepth 20000 in
theorem lc_5_count : Cond.code yX5_count cX5_count 4 (some .int) ∈ wsL_law := ml 770 rfl (by decide +kernel)
set_option maxRecDepth 20000 in
theorem lg_5_count : GoodIn wsL_law (wsV RL 82 RX5 yX5_count (wsU yX5_count cX5_count 4 (some .int))) := gwV lk_5_count li_5_count ls_5_count ini_RX5 lc_5_count
set_option maxRecDepth 20000 in
theorem lk_4_init : Cond.methodLink RL 9 yX4_init ∈ wsL_law := ml 41 (by decide +kernel) (by decide +kernel)
set_option maxRecDepth 20000 in
theorem lk_5_init : Cond.methodLink RL 12 yX5_init ∈ wsL_law := ml 502 (by decide +kernel) (by decide +kernel)
set_option maxRecDepth 20000 in
theorem ll_4 : Cond.classLink RL 7 RX4 ∈ wsL_law := ml 39 (by decide +kernel) (by decide +kernel)
set_option maxRecDepth 20000 in
theorem ll_5 : Cond.classLink RL 10 RX5 ∈ wsL_law := ml 500 (by decide +kernel) (by decide +kernel)
abbrev lX (cA : Nat → ClassId) (aB aP aT aM aN : Nat → Nat) (L : List Nat) (bI pI : Nat → Int32) (pA : Nat → Nat → Int32) (tI : Nat → Int32) (tJ : Nat → Int64) (tP : Nat → Option Nat) (tO : Nat → Int64) (tR mI : Nat → Int32) (mJ : Nat → Int64) (mA : Nat → Nat → Int32) (vI : Nat → Int32) (vJ : Nat → Int64) (vA qI : Nat → Nat → Int32) (qJ : Nat → Nat → Int64) : va_W := wl [gB aB aP aT aM aN bI, gP cA aP pI pA, gT cA aT tI tJ tP tO tR, gM cA aM mI mJ mA, gM cA aN vI vJ vA] ++ gQ L qI qJ
abbrev lM (cA : Nat → ClassId) (aR : Nat → Nat) (K : List Nat) (rG : Nat → Option Nat) (rI : Nat → Int32) (rA rR : Nat → Nat → Int32) : va_W := wl [gR cA aR rI rA rG] ++ gG cA K rR
/-- the law at a place of its loop, with i ints read: from every state where both sides agree it comes to its end -/
def AtP (p : Program) (l : Launch) (e : Env) (s : State) (m : MethodId) (below : List Frame) (meth : Method) (c : Code) (b : Nat) (D : va_G) (cA : Nat → ClassId) (aB aP aT aM aN aR : Nat → Nat) (L K : List Nat) (rG : Nat → Option Nat) (pc i : Nat) : Prop :=
  ∀ (bI pI : Nat → Int32) (pA : Nat → Nat → Int32) (tI : Nat → Int32) (tJ : Nat → Int64) (tP : Nat → Option Nat) (tO : Nat → Int64) (tR mI : Nat → Int32) (mJ : Nat → Int64) (mA : Nat → Nat → Int32) (vI : Nat → Int32) (vJ : Nat → Int64) (vA qI : Nat → Nat → Int32) (qJ : Nat → Nat → Int64) (rI : Nat → Int32) (rA rR : Nat → Nat → Int32) (H : Heap) (locs : List Loc) (ls : Array Slot), Inv L K rG bI pI pA tI tJ tP tO tR vI vJ vA qI qJ rI rA rR → va_P D vwCl (lX cA aB aP aT aM aN L bI pI pA tI tJ tP tO tR mI mJ mA vI vJ vA qI qJ ++ lM cA aR K rG rI rA rR) H → va_D (fun q : Nat => s.heap.size ≤ q) (lX cA aB aP aT aM aN L bI pI pA tI tJ tP tO tR mI mJ mA vI vJ vA qI qJ ++ lM cA aR K rG rI rA rR) → va_S (fun q : Nat => s.heap.size ≤ q) s.heap H locs → lv_has ls 4 [(0, .ref b), (1, .ref (aB 0)), (2, .ref (aR 0)), (3, .int (nI i))] → W p l e room_1 s m #[Value.ref b] below meth c H locs 120 20148 (lw_Z below #[Value.ref b] s) (F0 m pc ls [])
section GL
variable {p : Program} {l : Launch} {e : Env} {R : Room} {s : State} {m : MethodId} {args : Array Value} {below : List Frame} {meth : Method} {c : Code} {H : Heap} {locs : List Loc} {cells slots : Nat} {Q : State → Prop}
variable {ls : Array Slot} {rest : List Value} {A : Nat → Prop} {b Ln i x1 x2 pc : Nat} {xs : Nat → Int32}
theorem gl_arg (hexec : p.tables.exec = Jvm.exec) (hb : c.code = cL_law) (hX : va_X b Ln xs s s.heap) (hbl : b < s.heap.size) (hbA : ¬ A b) (hS : va_S A s.heap H locs) (hLn : Ln ≤ 2560) (hl : lv_has ls 4 [(0, .ref b), (1, .ref x1), (2, .ref x2), (3, .int (nI i))]) (k : Nat) {kI : Int} (hk : Int32.ofInt kI = nI k) (hi : i + k < Ln) (d0 : decode cL_law pc = .ok (.aload_n 0, 1)) (d1 : decode cL_law (pc + 1) = .ok (.iload_n 3, 1)) (d2 : decode cL_law (pc + 2) = .ok (.iconst kI, 1)) (d3 : decode cL_law (pc + 3) = .ok (.iadd, 1)) (d4 : decode cL_law (pc + 4) = .ok (.iaload, 1))
    (kk : W p l e R s m args below meth c H locs cells slots Q (F0 m (pc + 5) ls (.int (xs (i + k)) :: rest))) : W p l e R s m args below meth c H locs cells slots Q (F0 m pc ls rest) := by
  refine lv_aload_n hexec hb d0 rfl (lv_at hl 0 rfl) ?_
  refine lv_iload_n hexec hb d1 rfl (lv_at hl 3 rfl) ?_
  refine lv_iconst hexec hb d2 hk ?_
  refine lv_iadd hexec hb d3 ?_
  have e1 : nI i + nI k = nI (i + k) := nI_add i k
  rw [e1]
  refine va_sld hexec hb hX hbl hbA hS (vp_in_nI hi (by omega)) d4 ?_
  rw [nI_clamp (show i + k < 2 ^ 31 by omega)]
  exact kk
end GL
theorem and15 (y : Int32) : ∃ j : Nat, j < 16 ∧ y &&& (15 : Int32) = nI j := by
  refine ⟨un y % 16, Nat.mod_lt _ (by decide), ?_⟩
  apply Int32.toBitVec_inj.mp
  apply BitVec.eq_of_toNat_eq
  rw [Int32.toBitVec_and, BitVec.toNat_and]
  have e1 : (15 : Int32).toBitVec.toNat = 2 ^ 4 - 1 := by decide +kernel
  have e2 : (nI (un y % 16)).toBitVec.toNat = un y % 16 := un_nI (by omega)
  rw [e1, e2, Nat.and_two_pow_sub_one_eq_mod]
  rfl

