-- ===== end of PART A; then your names; then what follows =====
/-! THE CLAIM OUT OF ONE WALK OF THE LAW'S BODY. Your part is whole_start (and what it stands on); all else here is the same for every law, but numbers. -/
def R_law : String := "RuledBoardLaw"
def lw_P (b : Addr) (xs : List Int32) (args : Array Value) (s : State) : Prop := args = #[.ref b] ∧ s.IntsAt b xs ∧ xs.length ≤ 2048 ∧ (Jvm.Cond.and given_1 narrow_1).before args s = true
def lw_Q (_ : Array Value) (s : State) (o : Outcome) (t : State) : Prop := o = .returned (some (.int 1)) ∧ Framed s o t [] 601024 7293034
def lw_Z (below : List Frame) (a : Array Value) (s : State) : State → Prop := fun t => ∃ o, t.status = .running ∧ Ended t below o ∧ lw_Q a s o t
/-- the law's own end, with 1 on the stack, nothing written that was there before, its room as the claim has it -/
theorem lw_ret {p : Program} {l : Launch} {e : Env} {s : State} {m : MethodId} {below : List Frame} {meth : Method} {c : Code} {b : Nat} (hx : p.tables.exec = Jvm.exec) (hb : c.code = code) (hr : meth.sig.returnType = ret) (hlocks : meth.locks = false) {pc : Nat} {H : Heap} {ls : Array Slot} (hdg : decode code pc = .ok (.ireturn, 1)) : W p l e room_1 s m #[Value.ref b] below meth c H [] 601024 7293034 (lw_Z below #[Value.ref b] s) (F0 m pc ls [.int 1]) := by
  intro T hT X
  obtain ⟨fs, hret, hrun, hended, hW, hframe⟩ := X.leave (v := some (.int 1)) (hlocks := hlocks) (fun h => by rw [hr] at h; cases h)
  have hmeth' : T.vm.method? m = some meth := X.method'
  refine ⟨T.setFrames fs, ?_, .returned (some (.int 1)), hrun, hended, rfl, ⟨_, rfl⟩, hW, hframe⟩
  jvm_step X.here [X.here.top, hx, hb, hdg, hmeth', hr, ret, narrow_b1]
  (try refine ⟨rfl, ?_⟩); (try refine ⟨rfl, ?_⟩)
  first | (intro acts; rw [hret _ acts rfl rfl rfl]) | rw [hret _ _ rfl rfl rfl]
  exact Steps.refl _
/-- what holds at the law's entry: the machine, the code, the tables' words (any of lw_tbl by 'hts w (by decide +kernel)'), the script of L ints xs at the cell b, what the Statement gives of the start (any of its parts by flat_of_before) -/
def lw_At (p : Program) (s : State) (m : MethodId) (meth : Method) (c : Code) (b L : Nat) (xs : Nat → Int32) : Prop :=
  p.tables.exec = Jvm.exec ∧ c.code = code ∧ meth.sig.returnType = ret ∧ c.maxLocals = 7 ∧ s.vm.findClass R_law = some m.cls ∧ (∀ w ∈ lw_tbl, w.before #[Value.ref b] s = true) ∧ va_X b L xs s s.heap ∧ b < s.heap.size ∧ meth.locks = false ∧ (Jvm.Cond.and given_1 narrow_1).before #[Value.ref b] s = true
/-! rows for the law's own body -/
section QL
variable {p : Program} {l : Launch} {e : Env} {R : Room} {s : State} {m : MethodId} {args : Array Value} {below : List Frame} {meth : Method} {c : Code} {H : Heap} {locs : List Loc} {Q : State → Prop}
variable {cells slots mc ms : Nat} {cc : ByteArray} {pc : Nat} {ls : Array Slot} {rest st0 : List Value} {D : va_G} {tys : List (ClassId × FieldType)} {A : Nat → Prop} {ws wc wr w1 wf : va_W} {v : Option Value}
variable {nL maxL index n : Nat} {own : String} {y : MethodName} {bytes : ByteArray} {ret : Option FieldType} {rm : Room} {As : List Value} {hh : List (Nat × Nat × Nat × Nat)}
theorem qq_SW (S : CallFix p m c cc nL s args ww_all own) (hM : qq_dem l y (ww_with y bytes maxL ret hh) rm D tys As wc v w1 mc ms)
    (hl : Cond.methodLink own index y ∈ ww_all) (hst9 : Cond.static y ∈ ww_all) (hco : Cond.codeWith y bytes maxL ret hh ∈ ww_all) (hin : Cond.initialized y.cls ∈ ww_all)
    (hd : y.cls ≠ "java/lang/invoke/MethodHandle" ∧ y.cls ≠ "java/lang/invoke/VarHandle" ∧ (parseMethodDescriptor y.desc).map (fun d => d.parameters.length) = some n) (hRm : rm.cells = mc ∧ rm.slots = ms ∧ rm.frames + 1 ≤ R.frames ∧ 8 + (maxL + 11) + rm.locals ≤ R.locals)
    (hcs : cells + mc ≤ R.cells ∧ slots + ms ≤ R.slots) (hP : va_P D classes ws H) (hD : va_D A ws) (hK : va_K D classes tys s) (hS : va_S A s.heap H locs) (hA : ∀ q : Nat, s.heap.size ≤ q → A q) (hT : qq_T A s s.heap) (hN : qq_N s)
    (isC isR isF : List Nat) (hC : isC.map (fun i => ws[i]?) = wc.map some) (hR : isR.map (fun i => ws[i]?) = wr.map some) (hF : isF.map (fun i => (wr ++ w1)[i]?) = wf.map some) (hn : (va_nd isC && (va_nd isR && (va_nd isF && isR.all (fun i => !isC.contains i)))) = true)
    (hlen : As.length = n) (hsize : ls.size = nL) (hst : st0 = As.reverse ++ rest) (hW : (rest.map fun v => v.category).sum ≤ 8) (hdg : decode cc pc = .ok (.invokestatic index, 3))
    (kk : ∀ (H1 : Heap) (locs1 : List Loc), va_P D classes wf H1 → va_D A wf → va_S A s.heap H1 locs1 → W p l e R s m args below meth c H1 locs1 (cells + mc) (slots + ms) Q (F0 m (pc + 3) ls (v.toList ++ rest))) : W p l e R s m args below meth c H locs cells slots Q (F0 m pc ls st0) := by
  have hn1 : va_nd isC = true := by simp only [Bool.and_eq_true] at hn; exact hn.1
  obtain ⟨hx, hb, hml, hown, hts⟩ := S
  have hws : ∀ w ∈ ww_with y bytes maxL ret hh, ∀ (a' : Array Value) (U : State), s.WarmedH U.vm → w.before a' U = true := pay_in hts (ww_inW hco)
  have hK9 : Back l R p e below s args y 3 8 (PreOf R mc ms (qq_pre D tys As wc H.size)) (PostOf (qq_ret D tys v w1 (va_A wc H.size)) mc ms (va_A wc H.size)) :=
    va_backW (hh := hh) (bytes := bytes) (maxL := maxL) (ret := ret) (hM H.size) qq_blind hRm.1 hRm.2.1 hRm.2.2.1 hRm.2.2.2 hws List.mem_cons_self (fun a' U hW9 => word_at hW9 (Or.inl (by first | rfl | simp [Cond.onTables, Cond.keeps, Cond.steady])) (hts _ hin))
  intro T hTH X
  obtain ⟨mk, methM, cM, hnamed, hmethM, -, -, -, -, -, -, hsigM⟩ := Cond.codeWith_spec (hts _ hco)
  have hstatic : methM.isStatic = true := Cond.static_spec hnamed hmethM (hts _ hst9)
  obtain ⟨kP, hkP, -⟩ := className_of_methodNamed hnamed
  have hinitP : kP.init = .initialized := Cond.initialized_spec (findClass_of_methodNamed hnamed) hkP (hts _ hin)
  have hlen9 : As.length = methM.sig.parameters.length := by
    have h2 := hd.2.2
    rw [hsigM] at h2
    rw [hlen]
    exact (Option.some.inj h2).symm
  obtain ⟨vm₁, X₁, hstep₁⟩ := X.invokestatic hx hown (hts _ hl) hnamed hmethM hstatic hkP hinitP ⟨hd.1, hd.2.1⟩ (g := F0 m pc ls st0) rfl (argsL := As) (rest := rest) hlen9 hst (by rw [hb]; exact hdg)
  obtain ⟨v9, ⟨U', l2, c2, s2⟩, X', ⟨g', mk', t, L, e1, e2, ⟨⟨hv, hP1, hK1, hD1⟩, hz, hk⟩, h1, hL, h2, h3⟩, hsteps⟩ := hK9 m meth c ⟨T.setVm vm₁, locs, cells, slots⟩ (F0 m pc ls rest) (.invokestatic index) mk As.toArray X₁ rfl (hsize.trans hml.symm) (by rw [hb]; exact hdg) (lv_room hW) (X₁.named hnamed) ⟨hcs.1, hcs.2, qq_pre_ok hP hD hK hS hA hT hN isC hC hn1 (T.setVm vm₁) hTH X₁.warmed⟩
  dsimp only [Pt.U, Pt.locs, Pt.cells, Pt.slots] at X' e1 e2 h1 h2 h3 hsteps hz hk
  subst h1; subst h2; subst h3
  cases hv
  have hcall : ((T.setVm vm₁).calling g' mk' As.toArray).heap = H := hTH
  rw [hcall] at hz hk
  obtain ⟨hPf, hDf, hSf⟩ := qq_after (T' := U') (L := L) (wr := wr) (wf := wf) hP hD hS hA isC isR isF hC hR hF hn (by rw [e1]; exact hz) (fun q h1 h2 => by rw [e1]; exact hk q h1 h2) (by rw [e1]; exact hP1) hD1 hL
  obtain ⟨t2, a1, b1⟩ := kk U'.heap (locs ++ L) hPf hDf hSf U' rfl X'
  exact ⟨t2, hstep₁ _ fun acts => by rw [doInvoke_state]; exact hsteps.trans a1, b1⟩
end QL
theorem mm_499 : Cond.methodLink RR_L 125 yy_L_mate ∈ ww_all := ww_m (List.mem_of_getElem? (i := 549) (by decide +kernel)) rfl
theorem mm_500 : Cond.static yy_L_mate ∈ ww_all := ww_m (List.mem_of_getElem? (i := 550) (by decide +kernel)) rfl
set_option maxRecDepth 20000 in
theorem mm_501 : Cond.codeWith yy_L_mate bb_L_mate 4 (some .int) [(0, 9, 12, 13), (0, 9, 15, 15)] ∈ ww_all := ww_m (List.mem_of_getElem? (i := 551) (rfl)) rfl
theorem mm_502 : Cond.initialized RR_L ∈ ww_all := ww_m (List.mem_of_getElem? (i := 0) (by decide +kernel)) rfl
set_option maxRecDepth 20000 in
theorem mm_503 : Cond.code yy_M_mate bb_M_mate 2 (some .int) ∈ ww_all := ww_m (List.mem_of_getElem? (i := 725) (rfl)) rfl
theorem mm_504 : Cond.methodLink RR_L 127 yy_M_mate ∈ ww_all := ww_m (List.mem_of_getElem? (i := 722) (by decide +kernel)) rfl
theorem mm_505 : Cond.instanceMethod yy_M_mate ∈ ww_all := ww_m (List.mem_of_getElem? (i := 723) (by decide +kernel)) rfl
theorem mm_506 : Cond.selects RR_M yy_M_mate yy_M_mate ∈ ww_all := ww_m (List.mem_of_getElem? (i := 724) (by decide +kernel)) rfl
set_option maxRecDepth 20000 in
theorem mm_507 : Cond.code yy_M_thrown bb_M_thrown 1 (some .int) ∈ ww_all := ww_m (List.mem_of_getElem? (i := 721) (rfl)) rfl
theorem mm_508 : Cond.methodLink RR_L 69 yy_M_thrown ∈ ww_all := ww_m (List.mem_of_getElem? (i := 718) (by decide +kernel)) rfl
theorem mm_509 : Cond.instanceMethod yy_M_thrown ∈ ww_all := ww_m (List.mem_of_getElem? (i := 719) (by decide +kernel)) rfl
theorem mm_510 : Cond.selects RR_M yy_M_thrown yy_M_thrown ∈ ww_all := ww_m (List.mem_of_getElem? (i := 720) (by decide +kernel)) rfl
theorem mm_511 : Cond.methodLink RR_L 122 yy_L_hits ∈ ww_all := ww_m (List.mem_of_getElem? (i := 539) (by decide +kernel)) rfl
theorem mm_512 : Cond.static yy_L_hits ∈ ww_all := ww_m (List.mem_of_getElem? (i := 540) (by decide +kernel)) rfl
set_option maxRecDepth 20000 in
theorem mm_513 : Cond.codeWith yy_L_hits bb_L_hits 5 (some .int) [(0, 17, 20, 15)] ∈ ww_all := ww_m (List.mem_of_getElem? (i := 541) (rfl)) rfl
set_option maxRecDepth 20000 in
theorem mm_514 : Cond.code yy_M_hits bb_M_hits 4 (some .boolean) ∈ ww_all := ww_m (List.mem_of_getElem? (i := 841) (rfl)) rfl
theorem mm_515 : Cond.methodLink RR_L 124 yy_M_hits ∈ ww_all := ww_m (List.mem_of_getElem? (i := 838) (by decide +kernel)) rfl
theorem mm_516 : Cond.instanceMethod yy_M_hits ∈ ww_all := ww_m (List.mem_of_getElem? (i := 839) (by decide +kernel)) rfl
theorem mm_517 : Cond.selects RR_M yy_M_hits yy_M_hits ∈ ww_all := ww_m (List.mem_of_getElem? (i := 840) (by decide +kernel)) rfl
theorem mm_518 : Cond.methodLink RR_L 119 yy_L_seen ∈ ww_all := ww_m (List.mem_of_getElem? (i := 524) (by decide +kernel)) rfl
theorem mm_519 : Cond.static yy_L_seen ∈ ww_all := ww_m (List.mem_of_getElem? (i := 525) (by decide +kernel)) rfl
set_option maxRecDepth 20000 in
theorem mm_520 : Cond.codeWith yy_L_seen bb_L_seen 3 (some .int) [(0, 8, 11, 13)] ∈ ww_all := ww_m (List.mem_of_getElem? (i := 526) (rfl)) rfl
set_option maxRecDepth 20000 in
theorem mm_521 : Cond.code yy_M_seen bb_M_seen 3 (some .int) ∈ ww_all := ww_m (List.mem_of_getElem? (i := 833) (rfl)) rfl
theorem mm_522 : Cond.methodLink RR_L 121 yy_M_seen ∈ ww_all := ww_m (List.mem_of_getElem? (i := 830) (by decide +kernel)) rfl
theorem mm_523 : Cond.instanceMethod yy_M_seen ∈ ww_all := ww_m (List.mem_of_getElem? (i := 831) (by decide +kernel)) rfl
theorem mm_524 : Cond.selects RR_M yy_M_seen yy_M_seen ∈ ww_all := ww_m (List.mem_of_getElem? (i := 832) (by decide +kernel)) rfl
theorem mm_525 : Cond.methodLink RR_L 116 yy_L_quiet ∈ ww_all := ww_m (List.mem_of_getElem? (i := 513) (by decide +kernel)) rfl
theorem mm_526 : Cond.static yy_L_quiet ∈ ww_all := ww_m (List.mem_of_getElem? (i := 514) (by decide +kernel)) rfl
set_option maxRecDepth 20000 in
theorem mm_527 : Cond.codeWith yy_L_quiet bb_L_quiet 3 (some .int) [(0, 8, 11, 13)] ∈ ww_all := ww_m (List.mem_of_getElem? (i := 515) (rfl)) rfl
set_option maxRecDepth 20000 in
theorem mm_528 : Cond.code yy_M_quiet bb_M_quiet 1 (some .int) ∈ ww_all := ww_m (List.mem_of_getElem? (i := 829) (rfl)) rfl
theorem mm_529 : Cond.methodLink RR_L 118 yy_M_quiet ∈ ww_all := ww_m (List.mem_of_getElem? (i := 826) (by decide +kernel)) rfl
theorem mm_530 : Cond.instanceMethod yy_M_quiet ∈ ww_all := ww_m (List.mem_of_getElem? (i := 827) (by decide +kernel)) rfl
theorem mm_531 : Cond.selects RR_M yy_M_quiet yy_M_quiet ∈ ww_all := ww_m (List.mem_of_getElem? (i := 828) (by decide +kernel)) rfl
theorem mm_532 : Cond.methodLink RR_L 113 yy_L_ending ∈ ww_all := ww_m (List.mem_of_getElem? (i := 506) (by decide +kernel)) rfl
theorem mm_533 : Cond.static yy_L_ending ∈ ww_all := ww_m (List.mem_of_getElem? (i := 507) (by decide +kernel)) rfl
set_option maxRecDepth 20000 in
theorem mm_534 : Cond.codeWith yy_L_ending bb_L_ending 3 (some .int) [(0, 8, 11, 13)] ∈ ww_all := ww_m (List.mem_of_getElem? (i := 508) (rfl)) rfl
set_option maxRecDepth 20000 in
theorem mm_535 : Cond.code yy_M_ending bb_M_ending 1 (some .int) ∈ ww_all := ww_m (List.mem_of_getElem? (i := 825) (rfl)) rfl
theorem mm_536 : Cond.methodLink RR_L 115 yy_M_ending ∈ ww_all := ww_m (List.mem_of_getElem? (i := 822) (by decide +kernel)) rfl
theorem mm_537 : Cond.instanceMethod yy_M_ending ∈ ww_all := ww_m (List.mem_of_getElem? (i := 823) (by decide +kernel)) rfl
theorem mm_538 : Cond.selects RR_M yy_M_ending yy_M_ending ∈ ww_all := ww_m (List.mem_of_getElem? (i := 824) (by decide +kernel)) rfl
theorem mm_539 : Cond.methodLink RR_L 110 yy_L_check ∈ ww_all := ww_m (List.mem_of_getElem? (i := 495) (by decide +kernel)) rfl
theorem mm_540 : Cond.static yy_L_check ∈ ww_all := ww_m (List.mem_of_getElem? (i := 496) (by decide +kernel)) rfl
set_option maxRecDepth 20000 in
theorem mm_541 : Cond.codeWith yy_L_check bb_L_check 3 (some .int) [(0, 15, 18, 13)] ∈ ww_all := ww_m (List.mem_of_getElem? (i := 497) (rfl)) rfl
set_option maxRecDepth 20000 in
theorem mm_542 : Cond.code yy_M_check bb_M_check 1 (some .boolean) ∈ ww_all := ww_m (List.mem_of_getElem? (i := 821) (rfl)) rfl
theorem mm_543 : Cond.methodLink RR_L 112 yy_M_check ∈ ww_all := ww_m (List.mem_of_getElem? (i := 818) (by decide +kernel)) rfl
theorem mm_544 : Cond.instanceMethod yy_M_check ∈ ww_all := ww_m (List.mem_of_getElem? (i := 819) (by decide +kernel)) rfl
theorem mm_545 : Cond.selects RR_M yy_M_check yy_M_check ∈ ww_all := ww_m (List.mem_of_getElem? (i := 820) (by decide +kernel)) rfl
theorem mm_546 : Cond.methodLink RR_L 106 yy_L_nth ∈ ww_all := ww_m (List.mem_of_getElem? (i := 488) (by decide +kernel)) rfl
theorem mm_547 : Cond.static yy_L_nth ∈ ww_all := ww_m (List.mem_of_getElem? (i := 489) (by decide +kernel)) rfl
set_option maxRecDepth 20000 in
theorem mm_548 : Cond.codeWith yy_L_nth bb_L_nth 4 (some .int) [(0, 9, 12, 13), (0, 9, 15, 15)] ∈ ww_all := ww_m (List.mem_of_getElem? (i := 490) (rfl)) rfl
set_option maxRecDepth 20000 in
theorem mm_549 : Cond.code yy_M_nth bb_M_nth 3 (some .int) ∈ ww_all := ww_m (List.mem_of_getElem? (i := 817) (rfl)) rfl
theorem mm_550 : Cond.methodLink RR_L 109 yy_M_nth ∈ ww_all := ww_m (List.mem_of_getElem? (i := 814) (by decide +kernel)) rfl
theorem mm_551 : Cond.instanceMethod yy_M_nth ∈ ww_all := ww_m (List.mem_of_getElem? (i := 815) (by decide +kernel)) rfl
theorem mm_552 : Cond.selects RR_M yy_M_nth yy_M_nth ∈ ww_all := ww_m (List.mem_of_getElem? (i := 816) (by decide +kernel)) rfl
theorem mm_553 : Cond.methodLink RR_L 103 yy_L_moves ∈ ww_all := ww_m (List.mem_of_getElem? (i := 481) (by decide +kernel)) rfl
theorem mm_554 : Cond.static yy_L_moves ∈ ww_all := ww_m (List.mem_of_getElem? (i := 482) (by decide +kernel)) rfl
set_option maxRecDepth 20000 in
theorem mm_555 : Cond.codeWith yy_L_moves bb_L_moves 3 (some .int) [(0, 8, 11, 13)] ∈ ww_all := ww_m (List.mem_of_getElem? (i := 483) (rfl)) rfl
set_option maxRecDepth 20000 in
theorem mm_556 : Cond.code yy_M_moves bb_M_moves 1 (some .int) ∈ ww_all := ww_m (List.mem_of_getElem? (i := 813) (rfl)) rfl
theorem mm_557 : Cond.methodLink RR_L 105 yy_M_moves ∈ ww_all := ww_m (List.mem_of_getElem? (i := 810) (by decide +kernel)) rfl
theorem mm_558 : Cond.instanceMethod yy_M_moves ∈ ww_all := ww_m (List.mem_of_getElem? (i := 811) (by decide +kernel)) rfl
theorem mm_559 : Cond.selects RR_M yy_M_moves yy_M_moves ∈ ww_all := ww_m (List.mem_of_getElem? (i := 812) (by decide +kernel)) rfl
set_option maxRecDepth 20000 in
theorem mm_560 : Cond.code yy_B_passed bb_B_passed 1 (some .int) ∈ ww_all := ww_m (List.mem_of_getElem? (i := 250) (rfl)) rfl
theorem mm_561 : Cond.methodLink RR_L 99 yy_B_passed ∈ ww_all := ww_m (List.mem_of_getElem? (i := 247) (by decide +kernel)) rfl
theorem mm_562 : Cond.instanceMethod yy_B_passed ∈ ww_all := ww_m (List.mem_of_getElem? (i := 248) (by decide +kernel)) rfl
theorem mm_563 : Cond.selects RR_B yy_B_passed yy_B_passed ∈ ww_all := ww_m (List.mem_of_getElem? (i := 249) (by decide +kernel)) rfl
set_option maxRecDepth 20000 in
theorem mm_564 : Cond.code yy_M_passed bb_M_passed 1 (some .int) ∈ ww_all := ww_m (List.mem_of_getElem? (i := 809) (rfl)) rfl
theorem mm_565 : Cond.methodLink RR_L 102 yy_M_passed ∈ ww_all := ww_m (List.mem_of_getElem? (i := 806) (by decide +kernel)) rfl
theorem mm_566 : Cond.instanceMethod yy_M_passed ∈ ww_all := ww_m (List.mem_of_getElem? (i := 807) (by decide +kernel)) rfl
theorem mm_567 : Cond.selects RR_M yy_M_passed yy_M_passed ∈ ww_all := ww_m (List.mem_of_getElem? (i := 808) (by decide +kernel)) rfl
set_option maxRecDepth 20000 in
theorem mm_568 : Cond.code yy_B_rights bb_B_rights 1 (some .int) ∈ ww_all := ww_m (List.mem_of_getElem? (i := 246) (rfl)) rfl
theorem mm_569 : Cond.methodLink RR_L 95 yy_B_rights ∈ ww_all := ww_m (List.mem_of_getElem? (i := 243) (by decide +kernel)) rfl
theorem mm_570 : Cond.instanceMethod yy_B_rights ∈ ww_all := ww_m (List.mem_of_getElem? (i := 244) (by decide +kernel)) rfl
theorem mm_571 : Cond.selects RR_B yy_B_rights yy_B_rights ∈ ww_all := ww_m (List.mem_of_getElem? (i := 245) (by decide +kernel)) rfl
set_option maxRecDepth 20000 in
theorem mm_572 : Cond.code yy_M_rights bb_M_rights 1 (some .int) ∈ ww_all := ww_m (List.mem_of_getElem? (i := 805) (rfl)) rfl
theorem mm_573 : Cond.methodLink RR_L 98 yy_M_rights ∈ ww_all := ww_m (List.mem_of_getElem? (i := 802) (by decide +kernel)) rfl
theorem mm_574 : Cond.instanceMethod yy_M_rights ∈ ww_all := ww_m (List.mem_of_getElem? (i := 803) (by decide +kernel)) rfl
theorem mm_575 : Cond.selects RR_M yy_M_rights yy_M_rights ∈ ww_all := ww_m (List.mem_of_getElem? (i := 804) (by decide +kernel)) rfl
set_option maxRecDepth 20000 in
theorem mm_576 : Cond.code yy_B_side bb_B_side 1 (some .int) ∈ ww_all := ww_m (List.mem_of_getElem? (i := 242) (rfl)) rfl
theorem mm_577 : Cond.methodLink RR_L 91 yy_B_side ∈ ww_all := ww_m (List.mem_of_getElem? (i := 239) (by decide +kernel)) rfl
theorem mm_578 : Cond.instanceMethod yy_B_side ∈ ww_all := ww_m (List.mem_of_getElem? (i := 240) (by decide +kernel)) rfl
theorem mm_579 : Cond.selects RR_B yy_B_side yy_B_side ∈ ww_all := ww_m (List.mem_of_getElem? (i := 241) (by decide +kernel)) rfl
set_option maxRecDepth 20000 in
theorem mm_580 : Cond.code yy_M_side bb_M_side 1 (some .int) ∈ ww_all := ww_m (List.mem_of_getElem? (i := 801) (rfl)) rfl
theorem mm_581 : Cond.methodLink RR_L 94 yy_M_side ∈ ww_all := ww_m (List.mem_of_getElem? (i := 798) (by decide +kernel)) rfl
theorem mm_582 : Cond.instanceMethod yy_M_side ∈ ww_all := ww_m (List.mem_of_getElem? (i := 799) (by decide +kernel)) rfl
theorem mm_583 : Cond.selects RR_M yy_M_side yy_M_side ∈ ww_all := ww_m (List.mem_of_getElem? (i := 800) (by decide +kernel)) rfl
set_option maxRecDepth 20000 in
theorem mm_584 : Cond.code yy_B_at bb_B_at 2 (some .int) ∈ ww_all := ww_m (List.mem_of_getElem? (i := 235) (rfl)) rfl
theorem mm_585 : Cond.methodLink RR_L 87 yy_B_at ∈ ww_all := ww_m (List.mem_of_getElem? (i := 232) (by decide +kernel)) rfl
theorem mm_586 : Cond.instanceMethod yy_B_at ∈ ww_all := ww_m (List.mem_of_getElem? (i := 233) (by decide +kernel)) rfl
theorem mm_587 : Cond.selects RR_B yy_B_at yy_B_at ∈ ww_all := ww_m (List.mem_of_getElem? (i := 234) (by decide +kernel)) rfl
set_option maxRecDepth 20000 in
theorem mm_588 : Cond.code yy_M_at bb_M_at 2 (some .int) ∈ ww_all := ww_m (List.mem_of_getElem? (i := 797) (rfl)) rfl
theorem mm_589 : Cond.methodLink RR_L 90 yy_M_at ∈ ww_all := ww_m (List.mem_of_getElem? (i := 794) (by decide +kernel)) rfl
theorem mm_590 : Cond.instanceMethod yy_M_at ∈ ww_all := ww_m (List.mem_of_getElem? (i := 795) (by decide +kernel)) rfl
theorem mm_591 : Cond.selects RR_M yy_M_at yy_M_at ∈ ww_all := ww_m (List.mem_of_getElem? (i := 796) (by decide +kernel)) rfl
set_option maxRecDepth 20000 in
theorem mm_592 : Cond.code yy_B_made bb_B_made 1 (some .int) ∈ ww_all := ww_m (List.mem_of_getElem? (i := 231) (rfl)) rfl
theorem mm_593 : Cond.methodLink RR_L 83 yy_B_made ∈ ww_all := ww_m (List.mem_of_getElem? (i := 228) (by decide +kernel)) rfl
theorem mm_594 : Cond.instanceMethod yy_B_made ∈ ww_all := ww_m (List.mem_of_getElem? (i := 229) (by decide +kernel)) rfl
theorem mm_595 : Cond.selects RR_B yy_B_made yy_B_made ∈ ww_all := ww_m (List.mem_of_getElem? (i := 230) (by decide +kernel)) rfl
set_option maxRecDepth 20000 in
theorem mm_596 : Cond.code yy_M_made bb_M_made 1 (some .int) ∈ ww_all := ww_m (List.mem_of_getElem? (i := 793) (rfl)) rfl
theorem mm_597 : Cond.methodLink RR_L 86 yy_M_made ∈ ww_all := ww_m (List.mem_of_getElem? (i := 790) (by decide +kernel)) rfl
theorem mm_598 : Cond.instanceMethod yy_M_made ∈ ww_all := ww_m (List.mem_of_getElem? (i := 791) (by decide +kernel)) rfl
theorem mm_599 : Cond.selects RR_M yy_M_made yy_M_made ∈ ww_all := ww_m (List.mem_of_getElem? (i := 792) (by decide +kernel)) rfl
theorem mm_600 : Cond.methodLink RR_L 79 yy_L_undo ∈ ww_all := ww_m (List.mem_of_getElem? (i := 468) (by decide +kernel)) rfl
theorem mm_601 : Cond.static yy_L_undo ∈ ww_all := ww_m (List.mem_of_getElem? (i := 469) (by decide +kernel)) rfl
set_option maxRecDepth 20000 in
theorem mm_602 : Cond.codeWith yy_L_undo bb_L_undo 3 (some .int) [(0, 8, 11, 13)] ∈ ww_all := ww_m (List.mem_of_getElem? (i := 470) (rfl)) rfl
set_option maxRecDepth 20000 in
theorem mm_603 : Cond.code yy_M_undo bb_M_undo 2 (some .int) ∈ ww_all := ww_m (List.mem_of_getElem? (i := 789) (rfl)) rfl
theorem mm_604 : Cond.methodLink RR_L 82 yy_M_undo ∈ ww_all := ww_m (List.mem_of_getElem? (i := 786) (by decide +kernel)) rfl
theorem mm_605 : Cond.instanceMethod yy_M_undo ∈ ww_all := ww_m (List.mem_of_getElem? (i := 787) (by decide +kernel)) rfl
theorem mm_606 : Cond.selects RR_M yy_M_undo yy_M_undo ∈ ww_all := ww_m (List.mem_of_getElem? (i := 788) (by decide +kernel)) rfl
theorem mm_607 : Cond.methodLink RR_L 76 yy_L_move ∈ ww_all := ww_m (List.mem_of_getElem? (i := 440) (by decide +kernel)) rfl
theorem mm_608 : Cond.static yy_L_move ∈ ww_all := ww_m (List.mem_of_getElem? (i := 441) (by decide +kernel)) rfl
set_option maxRecDepth 20000 in
theorem mm_609 : Cond.codeWith yy_L_move bb_L_move 6 (some .int) [(0, 12, 15, 13), (0, 12, 19, 15)] ∈ ww_all := ww_m (List.mem_of_getElem? (i := 442) (rfl)) rfl
set_option maxRecDepth 20000 in
theorem mm_610 : Cond.code yy_M_move bb_M_move 6 (some .int) ∈ ww_all := ww_m (List.mem_of_getElem? (i := 785) (rfl)) rfl
theorem mm_611 : Cond.methodLink RR_L 78 yy_M_move ∈ ww_all := ww_m (List.mem_of_getElem? (i := 782) (by decide +kernel)) rfl
theorem mm_612 : Cond.instanceMethod yy_M_move ∈ ww_all := ww_m (List.mem_of_getElem? (i := 783) (by decide +kernel)) rfl
theorem mm_613 : Cond.selects RR_M yy_M_move yy_M_move ∈ ww_all := ww_m (List.mem_of_getElem? (i := 784) (by decide +kernel)) rfl
theorem mm_614 : Cond.methodLink RR_L 72 yy_L_begin ∈ ww_all := ww_m (List.mem_of_getElem? (i := 347) (by decide +kernel)) rfl
theorem mm_615 : Cond.static yy_L_begin ∈ ww_all := ww_m (List.mem_of_getElem? (i := 348) (by decide +kernel)) rfl
set_option maxRecDepth 20000 in
theorem mm_616 : Cond.codeWith yy_L_begin bb_L_begin 6 (some .int) [(0, 12, 15, 13), (0, 12, 19, 15)] ∈ ww_all := ww_m (List.mem_of_getElem? (i := 349) (rfl)) rfl
set_option maxRecDepth 20000 in
theorem mm_617 : Cond.code yy_M_begin bb_M_begin 6 (some .int) ∈ ww_all := ww_m (List.mem_of_getElem? (i := 765) (rfl)) rfl
theorem mm_618 : Cond.methodLink RR_L 75 yy_M_begin ∈ ww_all := ww_m (List.mem_of_getElem? (i := 762) (by decide +kernel)) rfl
theorem mm_619 : Cond.instanceMethod yy_M_begin ∈ ww_all := ww_m (List.mem_of_getElem? (i := 763) (by decide +kernel)) rfl
theorem mm_620 : Cond.selects RR_M yy_M_begin yy_M_begin ∈ ww_all := ww_m (List.mem_of_getElem? (i := 764) (by decide +kernel)) rfl
theorem mm_621 : Cond.methodLink RR_L 63 yy_L_put ∈ ww_all := ww_m (List.mem_of_getElem? (i := 251) (by decide +kernel)) rfl
theorem mm_622 : Cond.static yy_L_put ∈ ww_all := ww_m (List.mem_of_getElem? (i := 252) (by decide +kernel)) rfl
set_option maxRecDepth 20000 in
theorem mm_623 : Cond.codeWith yy_L_put bb_L_put 5 (some .int) [(0, 10, 13, 13), (0, 10, 17, 15)] ∈ ww_all := ww_m (List.mem_of_getElem? (i := 253) (rfl)) rfl
set_option maxRecDepth 20000 in
theorem mm_624 : Cond.code yy_M_put bb_M_put 4 (some .int) ∈ ww_all := ww_m (List.mem_of_getElem? (i := 761) (rfl)) rfl
theorem mm_625 : Cond.methodLink RR_L 68 yy_M_put ∈ ww_all := ww_m (List.mem_of_getElem? (i := 758) (by decide +kernel)) rfl
theorem mm_626 : Cond.instanceMethod yy_M_put ∈ ww_all := ww_m (List.mem_of_getElem? (i := 759) (by decide +kernel)) rfl
theorem mm_627 : Cond.selects RR_M yy_M_put yy_M_put ∈ ww_all := ww_m (List.mem_of_getElem? (i := 760) (by decide +kernel)) rfl
set_option maxRecDepth 20000 in
theorem mm_628 : Cond.code yy_B_clear bb_B_clear 1 none ∈ ww_all := ww_m (List.mem_of_getElem? (i := 224) (rfl)) rfl
theorem mm_629 : Cond.methodLink RR_L 59 yy_B_clear ∈ ww_all := ww_m (List.mem_of_getElem? (i := 221) (by decide +kernel)) rfl
theorem mm_630 : Cond.instanceMethod yy_B_clear ∈ ww_all := ww_m (List.mem_of_getElem? (i := 222) (by decide +kernel)) rfl
theorem mm_631 : Cond.selects RR_B yy_B_clear yy_B_clear ∈ ww_all := ww_m (List.mem_of_getElem? (i := 223) (by decide +kernel)) rfl
set_option maxRecDepth 20000 in
theorem mm_632 : Cond.code yy_M_clear bb_M_clear 2 none ∈ ww_all := ww_m (List.mem_of_getElem? (i := 757) (rfl)) rfl
theorem mm_633 : Cond.methodLink RR_L 62 yy_M_clear ∈ ww_all := ww_m (List.mem_of_getElem? (i := 754) (by decide +kernel)) rfl
theorem mm_634 : Cond.instanceMethod yy_M_clear ∈ ww_all := ww_m (List.mem_of_getElem? (i := 755) (by decide +kernel)) rfl
theorem mm_635 : Cond.selects RR_M yy_M_clear yy_M_clear ∈ ww_all := ww_m (List.mem_of_getElem? (i := 756) (by decide +kernel)) rfl
