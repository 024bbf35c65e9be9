theorem wl_13 : Cond.classLink RR_L 13 xx_I ∈ ww_all := ww_m (List.mem_of_getElem? (i := 254) (by decide +kernel)) rfl
theorem wl_15 : Cond.classLink RR_L 15 xx_A ∈ ww_all := ww_m (List.mem_of_getElem? (i := 255) (by decide +kernel)) rfl
section QG
variable {p : Program} {l : Launch} {e : Env} {R : Room} {s : State} {m : MethodId} {args : Array Value} {below : List Frame} {meth : Method} {c : Code} {pc : Nat} {ls : Array Slot} {rest : List Value} {a b hpc a' b' h' : Nat}
theorem qq_f2I (htab : c.exceptionTable.toList.map (fun h => (h.startPc, h.endPc, h.handlerPc, h.catchType)) = [(a, b, hpc, 13), (a', b', h', 15)]) (hr : a ≤ pc ∧ pc < b) (hown : s.vm.findClass RR_L = some m.cls) (hts : ∀ w ∈ ww_all, w.before args s = true) (hN : qq_N s) :
    ∀ (T' : State) (locs' : List Loc) (cells' slots' : Nat) (x : Nat) (ce : Cell), Stand p l e R s m args below meth c T' locs' cells' slots' → T'.heap[x]? = some ce → ce.vm = .none → (((1 : Int32) = 1 ∧ s.vm.findClass xx_I = some ce.cls) ∨ ((1 : Int32) = 2 ∧ s.vm.findClass xx_A = some ce.cls)) →
      ∃ vm' : Vm, s.WarmedH vm' ∧ ∀ (Q : Handler → Jvm.Pre) (E : CtlPost) (d : Bool) (acts : List Action), Sem.wp (findHandler (F0 m pc ls rest) x) Q E e d acts ((T'.setTop (F0 m pc ls rest)).pushFrame (.throwing x)) ↔ Q (.found hpc) d acts (((T'.setTop (F0 m pc ls rest)).pushFrame (.throwing x)).setVm vm') := by
  intro T' locs' cells' slots' x ce X h1 h2 h3
  obtain ⟨x1, x2, hL, ⟨e1, e2, e3, e4⟩, ⟨f1, f2, f3, f4⟩⟩ := qq_h2 htab
  have h4 : s.vm.findClass xx_I = some ce.cls := by
    rcases h3 with h | h
    · exact h.2
    · exact absurd h.1 (by decide)
  have h5 := qq_find1 X (own := RR_L) (name := xx_I) (a := x) (cell := ce) (g := F0 m pc ls rest) rfl hL (by simp [covers, e1, e2]; exact hr) (by rw [e4]; decide) hown (by rw [e4]; exact hts _ wl_13) h1 h2 h4 hN.2.2.2.1
  rw [e3] at h5
  exact h5
theorem qq_f2A (htab : c.exceptionTable.toList.map (fun h => (h.startPc, h.endPc, h.handlerPc, h.catchType)) = [(a, b, h', 13), (a', b', hpc, 15)]) (hr : (a ≤ pc ∧ pc < b) ∧ (a' ≤ pc ∧ pc < b')) (hown : s.vm.findClass RR_L = some m.cls) (hts : ∀ w ∈ ww_all, w.before args s = true) (hN : qq_N s) :
    ∀ (T' : State) (locs' : List Loc) (cells' slots' : Nat) (x : Nat) (ce : Cell), Stand p l e R s m args below meth c T' locs' cells' slots' → T'.heap[x]? = some ce → ce.vm = .none → (((2 : Int32) = 1 ∧ s.vm.findClass xx_I = some ce.cls) ∨ ((2 : Int32) = 2 ∧ s.vm.findClass xx_A = some ce.cls)) →
      ∃ vm' : Vm, s.WarmedH vm' ∧ ∀ (Q : Handler → Jvm.Pre) (E : CtlPost) (d : Bool) (acts : List Action), Sem.wp (findHandler (F0 m pc ls rest) x) Q E e d acts ((T'.setTop (F0 m pc ls rest)).pushFrame (.throwing x)) ↔ Q (.found hpc) d acts (((T'.setTop (F0 m pc ls rest)).pushFrame (.throwing x)).setVm vm') := by
  intro T' locs' cells' slots' x ce X h1 h2 h3
  obtain ⟨x1, x2, hL, ⟨e1, e2, e3, e4⟩, ⟨f1, f2, f3, f4⟩⟩ := qq_h2 htab
  have h4 : s.vm.findClass xx_A = some ce.cls := by
    rcases h3 with h | h
    · exact absurd h.1 (by decide)
    · exact h.2
  have h5 := qq_find2 X (own := RR_L) (n1 := xx_I) (n2 := xx_A) (a := x) (cell := ce) (g := F0 m pc ls rest) rfl hL (by simp [covers, e1, e2]; exact hr.1) (by simp [covers, f1, f2]; exact hr.2) (by rw [e4]; decide) (by rw [f4]; decide) hown (by rw [e4]; exact hts _ wl_13) (by rw [f4]; exact hts _ wl_15) h1 h2 h4 hN.2.2.2.2.1 hN.2.2.2.2.2.1
  rw [f3] at h5
  exact h5
theorem qq_f1I (htab : c.exceptionTable.toList.map (fun h => (h.startPc, h.endPc, h.handlerPc, h.catchType)) = [(a, b, hpc, 13)]) (hr : a ≤ pc ∧ pc < b) (hown : s.vm.findClass RR_L = some m.cls) (hts : ∀ w ∈ ww_all, w.before args s = true) (hN : qq_N s) :
    ∀ (T' : State) (locs' : List Loc) (cells' slots' : Nat) (x : Nat) (ce : Cell), Stand p l e R s m args below meth c T' locs' cells' slots' → T'.heap[x]? = some ce → ce.vm = .none → (((1 : Int32) = 1 ∧ s.vm.findClass xx_I = some ce.cls) ∨ ((1 : Int32) = 2 ∧ s.vm.findClass xx_A = some ce.cls)) →
      ∃ vm' : Vm, s.WarmedH vm' ∧ ∀ (Q : Handler → Jvm.Pre) (E : CtlPost) (d : Bool) (acts : List Action), Sem.wp (findHandler (F0 m pc ls rest) x) Q E e d acts ((T'.setTop (F0 m pc ls rest)).pushFrame (.throwing x)) ↔ Q (.found hpc) d acts (((T'.setTop (F0 m pc ls rest)).pushFrame (.throwing x)).setVm vm') := by
  intro T' locs' cells' slots' x ce X h1 h2 h3
  obtain ⟨x1, hL, e1, e2, e3, e4⟩ := qq_h1 htab
  have h4 : s.vm.findClass xx_I = some ce.cls := by
    rcases h3 with h | h
    · exact h.2
    · exact absurd h.1 (by decide)
  have h5 := qq_find1 X (own := RR_L) (name := xx_I) (a := x) (cell := ce) (g := F0 m pc ls rest) rfl hL (by simp [covers, e1, e2]; exact hr) (by rw [e4]; decide) hown (by rw [e4]; exact hts _ wl_13) h1 h2 h4 hN.2.2.2.1
  rw [e3] at h5
  exact h5
theorem qq_f1A (htab : c.exceptionTable.toList.map (fun h => (h.startPc, h.endPc, h.handlerPc, h.catchType)) = [(a, b, hpc, 15)]) (hr : a ≤ pc ∧ pc < b) (hown : s.vm.findClass RR_L = some m.cls) (hts : ∀ w ∈ ww_all, w.before args s = true) (hN : qq_N s) :
    ∀ (T' : State) (locs' : List Loc) (cells' slots' : Nat) (x : Nat) (ce : Cell), Stand p l e R s m args below meth c T' locs' cells' slots' → T'.heap[x]? = some ce → ce.vm = .none → (((2 : Int32) = 1 ∧ s.vm.findClass xx_I = some ce.cls) ∨ ((2 : Int32) = 2 ∧ s.vm.findClass xx_A = some ce.cls)) →
      ∃ vm' : Vm, s.WarmedH vm' ∧ ∀ (Q : Handler → Jvm.Pre) (E : CtlPost) (d : Bool) (acts : List Action), Sem.wp (findHandler (F0 m pc ls rest) x) Q E e d acts ((T'.setTop (F0 m pc ls rest)).pushFrame (.throwing x)) ↔ Q (.found hpc) d acts (((T'.setTop (F0 m pc ls rest)).pushFrame (.throwing x)).setVm vm') := by
  intro T' locs' cells' slots' x ce X h1 h2 h3
  obtain ⟨x1, hL, e1, e2, e3, e4⟩ := qq_h1 htab
  have h4 : s.vm.findClass xx_A = some ce.cls := by
    rcases h3 with h | h
    · exact absurd h.1 (by decide)
    · exact h.2
  have h5 := qq_find1 X (own := RR_L) (name := xx_A) (a := x) (cell := ce) (g := F0 m pc ls rest) rfl hL (by simp [covers, e1, e2]; exact hr) (by rw [e4]; decide) hown (by rw [e4]; exact hts _ wl_15) h1 h2 h4 hN.2.2.2.2.1
  rw [e3] at h5
  exact h5
end QG
theorem mm_451 : Cond.methodLink RR_L 7 yy_B_put ∈ ww_all := ww_m (List.mem_of_getElem? (i := 256) (by decide +kernel)) rfl
theorem mm_452 : Cond.instanceMethod yy_B_put ∈ ww_all := ww_m (List.mem_of_getElem? (i := 257) (by decide +kernel)) rfl
theorem mm_453 : Cond.selects RR_B yy_B_put yy_B_put ∈ ww_all := ww_m (List.mem_of_getElem? (i := 258) (by decide +kernel)) rfl
set_option maxRecDepth 20000 in
theorem mm_454 : Cond.code yy_B_put bb_B_put 4 (some .int) ∈ ww_all := ww_m (List.mem_of_getElem? (i := 259) (rfl)) rfl
theorem mm_455 : Cond.methodLink RR_L 17 yy_B_begin ∈ ww_all := ww_m (List.mem_of_getElem? (i := 350) (by decide +kernel)) rfl
theorem mm_456 : Cond.instanceMethod yy_B_begin ∈ ww_all := ww_m (List.mem_of_getElem? (i := 351) (by decide +kernel)) rfl
theorem mm_457 : Cond.selects RR_B yy_B_begin yy_B_begin ∈ ww_all := ww_m (List.mem_of_getElem? (i := 352) (by decide +kernel)) rfl
set_option maxRecDepth 20000 in
theorem mm_458 : Cond.code yy_B_begin bb_B_begin 4 (some .int) ∈ ww_all := ww_m (List.mem_of_getElem? (i := 353) (rfl)) rfl
theorem mm_459 : Cond.methodLink RR_L 21 yy_B_move ∈ ww_all := ww_m (List.mem_of_getElem? (i := 443) (by decide +kernel)) rfl
theorem mm_460 : Cond.instanceMethod yy_B_move ∈ ww_all := ww_m (List.mem_of_getElem? (i := 444) (by decide +kernel)) rfl
theorem mm_461 : Cond.selects RR_B yy_B_move yy_B_move ∈ ww_all := ww_m (List.mem_of_getElem? (i := 445) (by decide +kernel)) rfl
set_option maxRecDepth 20000 in
theorem mm_462 : Cond.code yy_B_move bb_B_move 4 (some .int) ∈ ww_all := ww_m (List.mem_of_getElem? (i := 446) (rfl)) rfl
theorem mm_463 : Cond.methodLink RR_L 24 yy_B_undo ∈ ww_all := ww_m (List.mem_of_getElem? (i := 471) (by decide +kernel)) rfl
theorem mm_464 : Cond.instanceMethod yy_B_undo ∈ ww_all := ww_m (List.mem_of_getElem? (i := 472) (by decide +kernel)) rfl
theorem mm_465 : Cond.selects RR_B yy_B_undo yy_B_undo ∈ ww_all := ww_m (List.mem_of_getElem? (i := 473) (by decide +kernel)) rfl
set_option maxRecDepth 20000 in
theorem mm_466 : Cond.code yy_B_undo bb_B_undo 1 (some .int) ∈ ww_all := ww_m (List.mem_of_getElem? (i := 474) (rfl)) rfl
theorem mm_467 : Cond.methodLink RR_L 28 yy_B_moves ∈ ww_all := ww_m (List.mem_of_getElem? (i := 484) (by decide +kernel)) rfl
theorem mm_468 : Cond.instanceMethod yy_B_moves ∈ ww_all := ww_m (List.mem_of_getElem? (i := 485) (by decide +kernel)) rfl
theorem mm_469 : Cond.selects RR_B yy_B_moves yy_B_moves ∈ ww_all := ww_m (List.mem_of_getElem? (i := 486) (by decide +kernel)) rfl
set_option maxRecDepth 20000 in
theorem mm_470 : Cond.code yy_B_moves bb_B_moves 1 (some .int) ∈ ww_all := ww_m (List.mem_of_getElem? (i := 487) (rfl)) rfl
theorem mm_471 : Cond.methodLink RR_L 31 yy_B_nth ∈ ww_all := ww_m (List.mem_of_getElem? (i := 491) (by decide +kernel)) rfl
theorem mm_472 : Cond.instanceMethod yy_B_nth ∈ ww_all := ww_m (List.mem_of_getElem? (i := 492) (by decide +kernel)) rfl
theorem mm_473 : Cond.selects RR_B yy_B_nth yy_B_nth ∈ ww_all := ww_m (List.mem_of_getElem? (i := 493) (by decide +kernel)) rfl
set_option maxRecDepth 20000 in
theorem mm_474 : Cond.code yy_B_nth bb_B_nth 3 (some .int) ∈ ww_all := ww_m (List.mem_of_getElem? (i := 494) (rfl)) rfl
theorem mm_475 : Cond.methodLink RR_L 35 yy_B_check ∈ ww_all := ww_m (List.mem_of_getElem? (i := 498) (by decide +kernel)) rfl
theorem mm_476 : Cond.instanceMethod yy_B_check ∈ ww_all := ww_m (List.mem_of_getElem? (i := 499) (by decide +kernel)) rfl
theorem mm_477 : Cond.selects RR_B yy_B_check yy_B_check ∈ ww_all := ww_m (List.mem_of_getElem? (i := 500) (by decide +kernel)) rfl
set_option maxRecDepth 20000 in
theorem mm_478 : Cond.code yy_B_check bb_B_check 1 (some .boolean) ∈ ww_all := ww_m (List.mem_of_getElem? (i := 501) (rfl)) rfl
theorem mm_479 : Cond.methodLink RR_L 39 yy_B_ending ∈ ww_all := ww_m (List.mem_of_getElem? (i := 509) (by decide +kernel)) rfl
theorem mm_480 : Cond.instanceMethod yy_B_ending ∈ ww_all := ww_m (List.mem_of_getElem? (i := 510) (by decide +kernel)) rfl
theorem mm_481 : Cond.selects RR_B yy_B_ending yy_B_ending ∈ ww_all := ww_m (List.mem_of_getElem? (i := 511) (by decide +kernel)) rfl
set_option maxRecDepth 20000 in
theorem mm_482 : Cond.code yy_B_ending bb_B_ending 1 (some .int) ∈ ww_all := ww_m (List.mem_of_getElem? (i := 512) (rfl)) rfl
theorem mm_483 : Cond.methodLink RR_L 42 yy_B_quiet ∈ ww_all := ww_m (List.mem_of_getElem? (i := 516) (by decide +kernel)) rfl
theorem mm_484 : Cond.instanceMethod yy_B_quiet ∈ ww_all := ww_m (List.mem_of_getElem? (i := 517) (by decide +kernel)) rfl
theorem mm_485 : Cond.selects RR_B yy_B_quiet yy_B_quiet ∈ ww_all := ww_m (List.mem_of_getElem? (i := 518) (by decide +kernel)) rfl
set_option maxRecDepth 20000 in
theorem mm_486 : Cond.code yy_B_quiet bb_B_quiet 1 (some .int) ∈ ww_all := ww_m (List.mem_of_getElem? (i := 519) (rfl)) rfl
theorem mm_487 : Cond.methodLink RR_L 45 yy_B_seen ∈ ww_all := ww_m (List.mem_of_getElem? (i := 527) (by decide +kernel)) rfl
theorem mm_488 : Cond.instanceMethod yy_B_seen ∈ ww_all := ww_m (List.mem_of_getElem? (i := 528) (by decide +kernel)) rfl
theorem mm_489 : Cond.selects RR_B yy_B_seen yy_B_seen ∈ ww_all := ww_m (List.mem_of_getElem? (i := 529) (by decide +kernel)) rfl
set_option maxRecDepth 20000 in
theorem mm_490 : Cond.code yy_B_seen bb_B_seen 1 (some .int) ∈ ww_all := ww_m (List.mem_of_getElem? (i := 530) (rfl)) rfl
theorem mm_491 : Cond.methodLink RR_L 48 yy_B_hits ∈ ww_all := ww_m (List.mem_of_getElem? (i := 542) (by decide +kernel)) rfl
theorem mm_492 : Cond.instanceMethod yy_B_hits ∈ ww_all := ww_m (List.mem_of_getElem? (i := 543) (by decide +kernel)) rfl
theorem mm_493 : Cond.selects RR_B yy_B_hits yy_B_hits ∈ ww_all := ww_m (List.mem_of_getElem? (i := 544) (by decide +kernel)) rfl
set_option maxRecDepth 20000 in
theorem mm_494 : Cond.code yy_B_hits bb_B_hits 3 (some .boolean) ∈ ww_all := ww_m (List.mem_of_getElem? (i := 545) (rfl)) rfl
theorem mm_495 : Cond.methodLink RR_L 52 yy_B_mate ∈ ww_all := ww_m (List.mem_of_getElem? (i := 552) (by decide +kernel)) rfl
theorem mm_496 : Cond.instanceMethod yy_B_mate ∈ ww_all := ww_m (List.mem_of_getElem? (i := 553) (by decide +kernel)) rfl
theorem mm_497 : Cond.selects RR_B yy_B_mate yy_B_mate ∈ ww_all := ww_m (List.mem_of_getElem? (i := 554) (by decide +kernel)) rfl
set_option maxRecDepth 20000 in
theorem mm_498 : Cond.code yy_B_mate bb_B_mate 3 (some .int) ∈ ww_all := ww_m (List.mem_of_getElem? (i := 555) (rfl)) rfl
