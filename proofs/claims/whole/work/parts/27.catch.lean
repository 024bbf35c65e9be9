/-! catching: the search resolves a handler's type where it is met the first time -/
section QC
variable {e : Env} {s : State} {f : JFrame} {a : Addr}
theorem qq_goC {E : CtlPost} {d : Bool} {acts : List Action} {Q : Handler → Jvm.Pre} {x : ExceptionTableEntry} {t : List ExceptionTableEntry} {c : ClassId} {cell : Cell} {vm' : Vm} (hx : covers x f.pc = true) (h0 : x.catchType ≠ 0)
    (hg : (Jvm.resolveClass f.method.cls x.catchType).Gives e.toSetting s.vm (.ok c) vm') (hsz : vm'.classes.size ≤ s.vm.classes.size) (hcell : s.heap[a]? = some cell) (hobj : ∀ k, cell.vm ≠ .statics k)
    (hk : ∃ k, vm'.classes[cell.cls]? = some k) (hc : ∃ k, vm'.classes[c]? = some k) :
    Sem.wp (findHandler.go f a (x :: t)) Q E e d acts s ↔
      if vm'.assignable cell.cls c = true then Q (.found x.handlerPc) d acts (s.setVm vm') else Sem.wp (findHandler.go f a t) Q E e d acts (s.setVm vm') := by
  simp only [covers] at hx
  obtain ⟨ha, ht⟩ := hg.op (op := VmOp.resolveClass f.method.cls x.catchType) rfl
  cases hfit : vm'.assignable cell.cls c <;>
    simp [findHandler.go, hx, h0, ha, ht, hsz, hcell, hobj, hk, hc, hfit, VmOp.dirties, VmOp.acts]
theorem qq_stepC {r : List Frame} {pc : Nat} {vm' : Vm} (hfind : ∀ (Q : Handler → Jvm.Pre) (E : CtlPost) (d : Bool) (acts : List Action), Sem.wp (findHandler f a) Q E e d acts s ↔ Q (.found pc) d acts (s.setVm vm')) :
    (stepThrowing e s a (.java f :: r)).Is ((s.setVm vm').setFrames (.java { f with pc := pc, stack := [.ref a] } :: r)) [] := by
  simp only [stepThrowing, searchFrame, vmDo]
  generalize hr : Sem.go _ e false [] s = res
  obtain ⟨as, rfl, ha⟩ := Sem.eq_ok_of hr (a := Handler.found pc) (s' := s.setVm vm') (acts' := []) (by simp [hfind _ _ _ _])
  exact ⟨rfl, ha⟩
theorem qq_caughtC {tb : Tables} {target : State} {g : JFrame} {c : Code} {below : List Frame} (h : At s g.method c below) {pc : Nat} {vm' : Vm}
    (hfind : ∀ (Q : Handler → Jvm.Pre) (E : CtlPost) (d : Bool) (acts : List Action), Sem.wp (findHandler g a) Q E e d acts ((s.setTop g).pushFrame (.throwing a)) ↔ Q (.found pc) d acts (((s.setTop g).pushFrame (.throwing a)).setVm vm'))
    (hrest : Steps tb e below ((s.setVm vm').setTop { g with pc := pc, stack := [.ref a] }) target) : Steps tb e below ((s.setTop g).pushFrame (.throwing a)) target := by
  obtain ⟨hgo, hw⟩ := h.throwing a
  refine Steps.head hgo hw ?_
  rw [stepThread_throwing (frames_entered h.top _), (qq_stepC (s := (s.setTop g).pushFrame (.throwing a)) hfind).1]
  obtain ⟨g₀, hg⟩ := Option.isSome_iff_exists.mp h.top
  obtain ⟨r, hr⟩ := State.topJava?_eq_some.mp hg
  have hr' : (s.setVm vm').frames = .java g₀ :: r := hr
  have e9 : ∀ Y Z : List Frame, ((s.setFrames Y).setVm vm').setFrames Z = (s.setVm vm').setFrames Z := fun Y Z => by
    rw [show (s.setFrames Y).setVm vm' = (s.setVm vm').setFrames Y from rfl, State.setFrames_setFrames]
  rw [State.setTop_of_frames _ hr'] at hrest
  rw [State.pushFrame, State.setTop_of_frames _ hr, State.setFrames_setFrames, e9, hr]
  exact hrest
end QC
section QF
variable {p : Program} {l : Launch} {e : Env} {R : Room} {s : State} {m : MethodId} {args : Array Value} {below : List Frame} {meth : Method} {c : Code} {T : State} {locs : List Loc} {cells slots : Nat}
/-- a handler's type at the state of now: what the search finds there, what it leaves in the tables -/
theorem qq_res (X : Stand p l e R s m args below meth c T locs cells slots) {own name : String} {index : Nat} (hown : s.vm.findClass own = some m.cls) (hlink : (Cond.classLink own index name).before args s = true) :
    ∃ (cT : ClassId) (vm' : Vm), s.vm.findClass name = some cT ∧ (Jvm.resolveClass m.cls index).Gives e.toSetting T.vm (.ok cT) vm' ∧ vm'.classes.size ≤ T.vm.classes.size ∧ s.WarmedH vm' ∧ ∃ k, vm'.classes[cT]? = some k := by
  have hpl : e.platform.magicAccessors = ({} : Platform).magicAccessors := by rw [X.admits.platform]
  obtain ⟨cT, hc', hcl⟩ := Cond.classLink_spec hown hlink e.platform hpl
  obtain ⟨dk, _, _, kt, hd, _, _, _, _, hkt, _, hopen⟩ := hcl.here
  have hcl₀ := X.warmed.classLinks hcl
  have hW' : s.WarmedH (T.vm.noted m.cls index (.cls cT)) := X.warmed.noted hd hopen (State.rightAt_cls hcl)
  obtain ⟨kt', hkt', -⟩ := hW'.alike.2.2 _ _ hkt
  exact ⟨cT, _, hc', resolveClass_links e.toSetting hcl₀, by no_record, hW', kt', hkt'⟩
theorem qq_find1 (X : Stand p l e R s m args below meth c T locs cells slots) {own name : String} {a : Addr} {cell : Cell} {g : JFrame} {x : ExceptionTableEntry} {t : List ExceptionTableEntry} (hg : g.method = m) (htab : c.exceptionTable.toList = x :: t) (hx : covers x g.pc = true) (h0 : x.catchType ≠ 0)
    (hown : s.vm.findClass own = some m.cls) (hlink : (Cond.classLink own x.catchType name).before args s = true) (hcell : T.heap[a]? = some cell) (hobj : cell.vm = .none) (hcls : s.vm.findClass name = some cell.cls) (hcast : qq_ca name s) :
    ∃ vm' : Vm, s.WarmedH vm' ∧ ∀ (Q : Handler → Jvm.Pre) (E : CtlPost) (d : Bool) (acts : List Action), Sem.wp (findHandler g a) Q E e d acts ((T.setTop g).pushFrame (.throwing a)) ↔ Q (.found x.handlerPc) d acts (((T.setTop g).pushFrame (.throwing a)).setVm vm') := by
  obtain ⟨cT, vm', h1, hgv, hsz, hW, k, hk⟩ := qq_res X hown hlink
  cases hcls.symm.trans h1
  obtain ⟨c2, h2, h3⟩ := hcast
  cases h1.symm.trans h2
  refine ⟨vm', hW, fun Q E d acts => ?_⟩
  subst hg
  rw [W.findHandler_eq (meth := meth) (code := c) (by rw [Stand.throwing_vm]; exact X.method') X.code, htab, qq_goC (c := cell.cls) (cell := cell) (vm' := vm') hx h0 (by rw [Stand.throwing_vm]; exact hgv) (by rw [Stand.throwing_vm]; exact hsz) (by rw [Stand.throwing_heap]; exact hcell) (fun k9 h9 => by rw [hobj] at h9; cases h9) ⟨k, hk⟩ ⟨k, hk⟩, if_pos (by rw [hW.alike.assignable]; exact h3)]
theorem qq_find2 (X : Stand p l e R s m args below meth c T locs cells slots) {own n1 n2 : String} {a : Addr} {cell : Cell} {g : JFrame} {x1 x2 : ExceptionTableEntry} {t : List ExceptionTableEntry} (hg : g.method = m) (htab : c.exceptionTable.toList = x1 :: x2 :: t) (hx1 : covers x1 g.pc = true) (hx2 : covers x2 g.pc = true) (h01 : x1.catchType ≠ 0) (h02 : x2.catchType ≠ 0)
    (hown : s.vm.findClass own = some m.cls) (hl1 : (Cond.classLink own x1.catchType n1).before args s = true) (hl2 : (Cond.classLink own x2.catchType n2).before args s = true) (hcell : T.heap[a]? = some cell) (hobj : cell.vm = .none) (hcls : s.vm.findClass n2 = some cell.cls) (hcast : qq_ca n2 s) (hno : va_Nc n2 n1 s) :
    ∃ vm' : Vm, s.WarmedH vm' ∧ ∀ (Q : Handler → Jvm.Pre) (E : CtlPost) (d : Bool) (acts : List Action), Sem.wp (findHandler g a) Q E e d acts ((T.setTop g).pushFrame (.throwing a)) ↔ Q (.found x2.handlerPc) d acts (((T.setTop g).pushFrame (.throwing a)).setVm vm') := by
  obtain ⟨cT, vm1, h1, hgv1, hsz1, hW1, k1, hk1⟩ := qq_res X hown hl1
  have X1 := X.noted hW1
  obtain ⟨cU, vm2, h2, hgv2, hsz2, hW2, k2, hk2⟩ := qq_res X1 hown hl2
  cases hcls.symm.trans h2
  obtain ⟨c2, h3, h4⟩ := hcast
  cases h2.symm.trans h3
  obtain ⟨c5, t5, h5, h6, h7⟩ := hno
  cases h2.symm.trans h5
  cases h1.symm.trans h6
  obtain ⟨k0, hk0, -⟩ := hW2.alike.symm.2.2 _ _ hk2
  obtain ⟨k3, hk3, -⟩ := hW1.alike.2.2 _ _ hk0
  refine ⟨vm2, hW2, fun Q E d acts => ?_⟩
  subst hg
  rw [W.findHandler_eq (meth := meth) (code := c) (by rw [Stand.throwing_vm]; exact X.method') X.code, htab, qq_goC (c := cT) (cell := cell) (vm' := vm1) hx1 h01 (by rw [Stand.throwing_vm]; exact hgv1) (by rw [Stand.throwing_vm]; exact hsz1) (by rw [Stand.throwing_heap]; exact hcell) (fun k9 h9 => by rw [hobj] at h9; cases h9) ⟨k3, hk3⟩ ⟨k1, hk1⟩, if_neg (by rw [hW1.alike.assignable, h7]; decide)]
  rw [qq_goC (s := ((T.setTop g).pushFrame (.throwing a)).setVm vm1) (c := cell.cls) (cell := cell) (vm' := vm2) hx2 h02 hgv2 hsz2 (by show ((T.setTop g).pushFrame (.throwing a)).heap[a]? = some cell; rw [Stand.throwing_heap]; exact hcell) (fun k9 h9 => by rw [hobj] at h9; cases h9) ⟨k2, hk2⟩ ⟨k2, hk2⟩, if_pos (by rw [hW2.alike.assignable]; exact h4)]
  rfl
end QF
/-! the law's catching methods: contracts with an exception table -/
def qq_dem (l : Launch) (y : MethodName) (w : List Cond) (rm : Room) (D : va_G) (tys : List (ClassId × FieldType)) (av : List Value) (wc : va_W) (v : Option Value) (w1 : va_W) (mc ms : Nat) : Prop :=
  ∀ sz : Nat, Met l y w rm (qq_pre D tys av wc sz) (qq_ret D tys v w1 (va_A wc sz)) mc ms (va_A wc sz)
abbrev ww_with (y : MethodName) (b : ByteArray) (n : Nat) (r : Option FieldType) (hh : List (Nat × Nat × Nat × Nat)) : List Cond := .codeWith y b n r hh :: ww_all
theorem ww_inW {y : MethodName} {b : ByteArray} {n : Nat} {r : Option FieldType} {hh : List (Nat × Nat × Nat × Nat)} (h : Cond.codeWith y b n r hh ∈ ww_all) : GoodIn ww_all (ww_with y b n r hh) := by
  intro w hw
  rcases List.mem_cons.mp hw with rfl | hw
  · exact ⟨h, good_of_word (List.mem_filter.mp h).2⟩
  · exact ⟨hw, good_of_word (List.mem_filter.mp hw).2⟩
theorem qq_ofw {l : Launch} {y : MethodName} {cc : ByteArray} {maxL mc ms : Nat} {ret : Option FieldType} {hh : List (Nat × Nat × Nat × Nat)} {rm : Room} {D : va_G} {tys : List (ClassId × FieldType)} {av : List Value} {wc : va_W} {v : Option Value} {w1 : va_W} {own : String} (hy : plainName y.cls = true) (hown : y.cls = own) (hlen : (lg_sl av).length ≤ maxL)
    (body : ∀ (p : Program) (e : Env) (s : State) (m : MethodId) (below : List Frame) (meth : Method) (c : Code) (A : Nat → Prop) (Q : State → Prop) (ls : Array Slot),
      p.tables.exec = Jvm.exec → c.code = cc → c.maxLocals = maxL → meth.sig.returnType = ret → meth.locks = false → c.exceptionTable.toList.map (fun h => (h.startPc, h.endPc, h.handlerPc, h.catchType)) = hh → s.vm.findClass own = some m.cls → (∀ w ∈ ww_all, w.before av.toArray s = true) → va_K D classes tys s → (∀ q : Nat, s.heap.size ≤ q → A q) → qq_T A s s.heap → qq_N s → va_P D classes wc s.heap → va_D A wc → va_S A s.heap s.heap [] → lv_has ls maxL (lv_args 0 av) → Q = MQ below (qq_ret D tys v w1 A) av.toArray s mc ms A →
      W p l e rm s m av.toArray below meth c s.heap [] 0 0 Q (F0 m 0 ls [])) : qq_dem l y (ww_with y cc maxL ret hh) rm D tys av wc v w1 mc ms := by
  intro sz
  refine va_MetW (cc := cc) (maxL := maxL) (ret := ret) (hh := hh) hy rfl ?_
  intro p e s m args below meth c s₁ B hml hv
  obtain ⟨rfl, hsz, hP, hK, hD0, hT, hN⟩ := hv
  have hts := atoms_spec (ws := ww_with y cc maxL ret hh) B.pre
  have how : s.vm.findClass own = some m.cls := hown ▸ findClass_of_methodNamed B.named
  have htab : c.exceptionTable.toList.map (fun h => (h.startPc, h.endPc, h.handlerPc, h.catchType)) = hh := by
    obtain ⟨m9, meth9, c9, hn9, h1, h2, h3, h4, h5, -⟩ := Cond.codeWith_spec (hts _ List.mem_cons_self)
    cases B.named.symm.trans hn9
    cases B.method.symm.trans h1
    cases (Stand.of_body B).code.symm.trans h2
    exact h5
  subst hsz
  have hl := lv_entry av (n := maxL) hlen
  rw [lg_entry_eq]
  exact body p e s m below meth c _ _ _ B.exec B.bytes hml B.returns B.notSynchronized htab how (fun w hw => hts w (List.mem_cons_of_mem _ hw)) hK (fun q h => Or.inr h) hT hN hP hD0.self va_S.rf hl rfl
theorem qq_h1 {L : List ExceptionTableEntry} {a b c d : Nat} (h : L.map (fun h => (h.startPc, h.endPc, h.handlerPc, h.catchType)) = [(a, b, c, d)]) : ∃ x : ExceptionTableEntry, L = [x] ∧ x.startPc = a ∧ x.endPc = b ∧ x.handlerPc = c ∧ x.catchType = d := by
  match L, h with
  | [x], h =>
    simp only [List.map_cons, List.map_nil, List.cons.injEq, Prod.mk.injEq, and_true] at h
    exact ⟨x, rfl, h⟩
theorem qq_h2 {L : List ExceptionTableEntry} {a b c d a' b' c' d' : Nat} (h : L.map (fun h => (h.startPc, h.endPc, h.handlerPc, h.catchType)) = [(a, b, c, d), (a', b', c', d')]) : ∃ x y : ExceptionTableEntry, L = [x, y] ∧ (x.startPc = a ∧ x.endPc = b ∧ x.handlerPc = c ∧ x.catchType = d) ∧ (y.startPc = a' ∧ y.endPc = b' ∧ y.handlerPc = c' ∧ y.catchType = d') := by
  match L, h with
  | [x, y], h =>
    simp only [List.map_cons, List.map_nil, List.cons.injEq, Prod.mk.injEq, and_true] at h
    exact ⟨x, y, rfl, h⟩
section QW
variable {p : Program} {l : Launch} {e : Env} {R : Room} {s : State} {m : MethodId} {args : Array Value} {below : List Frame} {meth : Method} {c : Code} {H : Heap} {locs : List Loc} {Q : State → Prop}
variable {cells slots mc ms : Nat} {cc : ByteArray} {pc : Nat} {ls : Array Slot} {rest st0 : List Value} {D : va_G} {tys : List (ClassId × FieldType)} {A : Nat → Prop} {ws wc wr w1 wf : va_W} {v : Option Value} {z : Int32}
variable {nL maxL index n : Nat} {own C : String} {y : MethodName} {bytes : ByteArray} {ret : Option FieldType} {rm : Room} {b : Addr} {As : List Value}
/-- it threw, and a handler of the caller's own is there: one that the search finds -/
theorem qq_VXc {hpc : Nat} (S : CallFix p m c cc nL s args ww_all own) (hM : qq_dex l y (ww_of y bytes maxL ret) rm D tys (.ref b :: As) wc z v w1 mc ms)
    (hl : Cond.methodLink own index y ∈ ww_all) (hi : Cond.instanceMethod y ∈ ww_all) (hse : Cond.selects C y y ∈ ww_all) (hco : Cond.code y bytes maxL ret ∈ ww_all) (hin : Cond.initialized y.cls ∈ ww_all)
    (hd : y.cls ≠ "java/lang/invoke/MethodHandle" ∧ y.cls ≠ "java/lang/invoke/VarHandle" ∧ (parseMethodDescriptor y.desc).map (fun d => d.parameters.length) = some n) (hRm : rm.cells = mc ∧ rm.slots = ms ∧ rm.frames + 1 ≤ R.frames ∧ 8 + (maxL + 11) + rm.locals ≤ R.locals)
    (hcs : cells + mc ≤ R.cells ∧ slots + ms ≤ R.slots) (hP : va_P D classes ws H) (hD : va_D A ws) (hK : va_K D classes tys s) (hS : va_S A s.heap H locs) (hA : ∀ q : Nat, s.heap.size ≤ q → A q) (hT : qq_T A s s.heap) (hN : qq_N s)
    {q0 ci : Nat} {fs : List Value} (he : ws[q0]? = some (b, .inr (ci, fs))) (hc : (classes[ci]?).map (fun q => q.1) = some C)
    (isC isR isF : List Nat) (hC : isC.map (fun i => ws[i]?) = wc.map some) (hR : isR.map (fun i => ws[i]?) = wr.map some) (hF : isF.map (fun i => (wr ++ w1)[i]?) = wf.map some) (hn : (va_nd isC && (va_nd isR && (va_nd isF && isR.all (fun i => !isC.contains i)))) = true)
    (hlen : As.length = n) (hsize : ls.size = nL) (hst : st0 = As.reverse ++ .ref b :: rest) (hW : (rest.map fun v => v.category).sum ≤ 8) (hdg : decode cc pc = .ok (.invokevirtual index, 3))
    (hz : ¬ z = 0)
    (hfind : ∀ (T' : State) (locs' : List Loc) (cells' slots' : Nat) (x : Nat) (ce : Cell), Stand p l e R s m args below meth c T' locs' cells' slots' → T'.heap[x]? = some ce → ce.vm = .none → ((z = 1 ∧ s.vm.findClass xx_I = some ce.cls) ∨ (z = 2 ∧ s.vm.findClass xx_A = some ce.cls)) →
      ∃ vm' : Vm, s.WarmedH vm' ∧ ∀ (Q : Handler → Jvm.Pre) (E : CtlPost) (d : Bool) (acts : List Action), Sem.wp (findHandler (F0 m pc ls rest) x) Q E e d acts ((T'.setTop (F0 m pc ls rest)).pushFrame (.throwing x)) ↔ Q (.found hpc) d acts (((T'.setTop (F0 m pc ls rest)).pushFrame (.throwing x)).setVm vm'))
    (kk : ∀ (x : Nat) (H1 : Heap) (locs1 : List Loc), va_P D classes wf H1 → va_D A wf → va_S A s.heap H1 locs1 → W p l e R s m args below meth c H1 locs1 (cells + mc) (slots + ms) Q (F0 m hpc ls [.ref x])) : W p l e R s m args below meth c H locs cells slots Q (F0 m pc ls st0) := by
  intro T hTH X
  obtain ⟨o, T', L, X', hoc, hPf, hDf, hSf, hor⟩ := qq_VX (wr := wr) (wf := wf) S hM hl hi hse hco hin hd hRm hcs hP hD hK hS hA hT hN he hc isC isR isF hC hR hF hn hlen hsize hst hW hdg hTH X
  rcases hoc with h | ⟨x, ce, h1, h2, h3, h4⟩
  · exact absurd h.1 hz
  · subst h1
    rcases hor with ⟨v9, h9, hs⟩ | ⟨x9, h9, hs⟩
    · cases h9
    · cases h9
      obtain ⟨vm', hW', hf⟩ := hfind T' _ _ _ x ce X' h2 h3 (by rw [X'.warmed.alike.findClass, X'.warmed.alike.findClass] at h4; exact h4)
      obtain ⟨t2, a1, b1⟩ := kk x T'.heap (locs ++ L) hPf hDf hSf (T'.setVm vm') rfl (X'.noted hW')
      exact ⟨t2, hs t2 (qq_caughtC X'.here hf a1), b1⟩
theorem qq_iretM {x : Int32} (hx : p.tables.exec = Jvm.exec) (hb : c.code = cc) (hr : meth.sig.returnType = some .int) (hlocks : meth.locks = false) (hQ : Q = MQ below (qq_ret D tys (some (.int x)) w1 A) args s cells slots A) (hP : va_P D classes w1 H) (hD : va_D A w1) (hK : va_K D classes tys s) (hS : va_S A s.heap H locs) (hdg : decode cc pc = .ok (.ireturn, 1)) : W p l e R s m args below meth c H locs cells slots Q (F0 m pc ls [.int x]) := by
  rw [hQ]
  exact W.iret hx hb hr (fun t ht hW => ⟨⟨rfl, by rw [ht]; exact hP, va_K.moved hW.alike hK, hD⟩, hS.F ht⟩) hS.2.2 hdg hlocks
end QW
