theorem wx_cI : Cond.classLink RR_B 91 xx_I ∈ ww_all := ww_m (List.mem_of_getElem? (i := 264) (by decide +kernel)) rfl
theorem wx_nI : Cond.instantiable xx_I 6 ∈ ww_all := ww_m (List.mem_of_getElem? (i := 265) (by decide +kernel)) rfl
theorem wx_iI : Cond.initialized xx_I ∈ ww_all := ww_m (List.mem_of_getElem? (i := 12) (by decide +kernel)) rfl
theorem wx_cA : Cond.classLink RR_B 65 xx_A ∈ ww_all := ww_m (List.mem_of_getElem? (i := 331) (by decide +kernel)) rfl
theorem wx_nA : Cond.instantiable xx_A 6 ∈ ww_all := ww_m (List.mem_of_getElem? (i := 332) (by decide +kernel)) rfl
theorem wx_iA : Cond.initialized xx_A ∈ ww_all := ww_m (List.mem_of_getElem? (i := 13) (by decide +kernel)) rfl
/-! contracts of methods that may throw: z says how it ended: 0 returned, 1 and 2 the two kinds of exception -/
def qq_dex (l : Launch) (y : MethodName) (w : List Cond) (rm : Room) (D : va_G) (tys : List (ClassId × FieldType)) (av : List Value) (wc : va_W) (z : Int32) (v : Option Value) (w1 : va_W) (mc ms : Nat) : Prop :=
  ∀ sz : Nat, qq_MetX l y w rm (qq_pre D tys av wc sz) (qq_retx D tys z v w1 (va_A wc sz)) mc ms (va_A wc sz)
theorem qq_ofx {l : Launch} {y : MethodName} {cc : ByteArray} {maxL mc ms : Nat} {ret : Option FieldType} {rm : Room} {D : va_G} {tys : List (ClassId × FieldType)} {av : List Value} {wc : va_W} {z : Int32} {v : Option Value} {w1 : va_W} {own : String} (hy : plainName y.cls = true) (hown : y.cls = own) (hlen : (lg_sl av).length ≤ maxL)
    (body : ∀ (p : Program) (e : Env) (s : State) (m : MethodId) (below : List Frame) (meth : Method) (c : Code) (A : Nat → Prop) (Q : State → Prop) (ls : Array Slot),
      p.tables.exec = Jvm.exec → c.code = cc → c.maxLocals = maxL → meth.sig.returnType = ret → meth.locks = false → c.exceptionTable.isEmpty = true → s.vm.findClass own = some m.cls → (∀ w ∈ ww_all, w.before av.toArray s = true) → va_K D classes tys s → (∀ q : Nat, s.heap.size ≤ q → A q) → qq_T A s s.heap → qq_N s → va_P D classes wc s.heap → va_D A wc → va_S A s.heap s.heap [] → lv_has ls maxL (lv_args 0 av) → Q = qq_MX below (qq_retx D tys z v w1 A) av.toArray s mc ms A →
      W p l e rm s m av.toArray below meth c s.heap [] 0 0 Q (F0 m 0 ls [])) : qq_dex l y (ww_of y cc maxL ret) rm D tys av wc z v w1 mc ms := by
  intro sz
  refine qq_MetX_ofW (cc := cc) (maxL := maxL) (ret := ret) hy rfl ?_
  intro p e s m args below meth c s₁ B hml hex hv
  obtain ⟨rfl, hsz, hP, hK, hD0, hT, hN⟩ := hv
  have hts := atoms_spec (ws := ww_of y cc maxL ret) B.pre
  have how : s.vm.findClass own = some m.cls := hown ▸ findClass_of_methodNamed B.named
  subst hsz
  have hl := lv_entry av (n := maxL) hlen
  rw [lg_entry_eq]
  exact body p e s m below meth c _ _ _ B.exec B.bytes hml B.returns B.notSynchronized hex how (fun w hw => hts w (List.mem_cons_of_mem _ hw)) hK (fun q h => Or.inr h) hT hN hP hD0.self va_S.rf hl rfl
section QY
variable {p : Program} {l : Launch} {e : Env} {R : Room} {s : State} {m : MethodId} {args : Array Value} {below : List Frame} {meth : Method} {c : Code} {H : Heap} {locs : List Loc} {Q : State → Prop}
variable {cells slots mc ms : Nat} {cc : ByteArray} {pc : Nat} {ls : Array Slot} {rest st0 : List Value} {D : va_G} {tys : List (ClassId × FieldType)} {A : Nat → Prop} {ws wc wr w1 wf : va_W} {v : Option Value} {z : Int32}
/-- the caller's world behind a call -/
theorem qq_after {T' : State} {L : List Loc} (hP : va_P D classes ws H) (hD : va_D A ws) (hS : va_S A s.heap H locs) (hA : ∀ q : Nat, s.heap.size ≤ q → A q)
    (isC isR isF : List Nat) (hC : isC.map (fun i => ws[i]?) = wc.map some) (hR : isR.map (fun i => ws[i]?) = wr.map some) (hF : isF.map (fun i => (wr ++ w1)[i]?) = wf.map some) (hn : (va_nd isC && (va_nd isR && (va_nd isF && isR.all (fun i => !isC.contains i)))) = true)
    (hz : H.size ≤ T'.heap.size) (hk : ∀ q : Nat, q < H.size → ¬ va_A wc H.size q → T'.heap[q]? = H[q]?) (hP1 : va_P D classes w1 T'.heap) (hD1 : va_D (va_A wc H.size) w1) (hL : ∀ q ∈ L, va_A wc H.size q.base) :
    va_P D classes wf T'.heap ∧ va_D A wf ∧ va_S A s.heap T'.heap (locs ++ L) := by
  simp only [Bool.and_eq_true] at hn
  obtain ⟨hn1, hn2, hn3, hn4⟩ := hn
  have hF0 := va_free (wc := wc) hD hS hA isC hC
  obtain ⟨hPj, hDj⟩ := va_join (wr := wr) (w1 := w1) hP hD isC isR hC hR hn2 (fun i hi h => by
    have h2 := List.all_eq_true.mp hn4 i hi
    simp [h] at h2) hk hF0 hP1 hD1
  exact ⟨hPj.sub isF (qq_fm hF), hDj.sub isF hn3 hF, Nat.le_trans hS.1 hz, fun q h1 h2 => by rw [hk q (Nat.lt_of_lt_of_le h1 hS.1) (fun z => h2 (hF0 q z))]; exact hS.2.1 q h1 h2, fun q hq => by
    rcases List.mem_append.mp hq with h | h
    · exact hS.2.2 q h
    · exact hF0 _ (hL q h)⟩
variable {nL maxL index n : Nat} {own C : String} {y : MethodName} {bytes : ByteArray} {ret : Option FieldType} {rm : Room} {b : Addr} {As : List Value}
/-- a call of a method that may throw: how it ended, and the world behind it -/
theorem qq_VX (S : CallFix p m c cc nL s args ww_all own) (hM : qq_dex l y (ww_of y bytes maxL ret) rm D tys (.ref b :: As) wc z v w1 mc ms)
    (hl : Cond.methodLink own index y ∈ ww_all) (hi : Cond.instanceMethod y ∈ ww_all) (hse : Cond.selects C y y ∈ ww_all) (hco : Cond.code y bytes maxL ret ∈ ww_all) (hin : Cond.initialized y.cls ∈ ww_all)
    (hd : y.cls ≠ "java/lang/invoke/MethodHandle" ∧ y.cls ≠ "java/lang/invoke/VarHandle" ∧ (parseMethodDescriptor y.desc).map (fun d => d.parameters.length) = some n) (hRm : rm.cells = mc ∧ rm.slots = ms ∧ rm.frames + 1 ≤ R.frames ∧ 8 + (maxL + 11) + rm.locals ≤ R.locals)
    (hcs : cells + mc ≤ R.cells ∧ slots + ms ≤ R.slots) (hP : va_P D classes ws H) (hD : va_D A ws) (hK : va_K D classes tys s) (hS : va_S A s.heap H locs) (hA : ∀ q : Nat, s.heap.size ≤ q → A q) (hT : qq_T A s s.heap) (hN : qq_N s)
    {q0 ci : Nat} {fs : List Value} (he : ws[q0]? = some (b, .inr (ci, fs))) (hc : (classes[ci]?).map (fun q => q.1) = some C)
    (isC isR isF : List Nat) (hC : isC.map (fun i => ws[i]?) = wc.map some) (hR : isR.map (fun i => ws[i]?) = wr.map some) (hF : isF.map (fun i => (wr ++ w1)[i]?) = wf.map some) (hn : (va_nd isC && (va_nd isR && (va_nd isF && isR.all (fun i => !isC.contains i)))) = true)
    (hlen : As.length = n) (hsize : ls.size = nL) (hst : st0 = As.reverse ++ .ref b :: rest) (hW : (rest.map fun v => v.category).sum ≤ 8) (hdg : decode cc pc = .ok (.invokevirtual index, 3))
    {T : State} (hTH : T.heap = H) (X : Stand p l e R s m args below meth c T locs cells slots) :
    ∃ (o : Outcome) (T' : State) (L : List Loc), Stand p l e R s m args below meth c T' (locs ++ L) (cells + mc) (slots + ms) ∧ qq_oc z v o T' ∧ va_P D classes wf T'.heap ∧ va_D A wf ∧ va_S A s.heap T'.heap (locs ++ L) ∧
      ((∃ v, o = .returned v ∧ ∀ tg, Steps p.tables e below (T'.setTop (F0 m (pc + 3) ls (v.toList ++ rest))) tg → Steps p.tables e below (T.setTop (F0 m pc ls st0)) tg) ∨ (∃ x, o = .threw x ∧ ∀ tg, Steps p.tables e below ((T'.setTop (F0 m pc ls rest)).pushFrame (.throwing x)) tg → Steps p.tables e below (T.setTop (F0 m pc ls st0)) tg)) := by
  have hn1 : va_nd isC = true := by simp only [Bool.and_eq_true] at hn; exact hn.1
  have hts := S.2.2.2.2
  cases hq : classes[ci]? with
  | none => rw [hq] at hc; cases hc
  | some q =>
    rw [hq] at hc
    have hCq : q.1 = C := Option.some.inj hc
    have hrecv : ∃ cellB : Cell, H[b]? = some cellB ∧ cellB.vm.isStatics = false ∧ s.vm.findClass C = some cellB.cls := by
      obtain ⟨cell, h1, h2, h3⟩ := va_recv hK hP hq he
      exact ⟨cell, h1, h2, by rw [← hCq]; exact h3⟩
    obtain ⟨o, st₀, t, T', L, h0, X', hL, e1, e2, ⟨⟨hoc, hP1, hK1, hD1⟩, hz, hk⟩, hor⟩ := qq_runVX (C := C) (g := F0 m pc ls st0) S (hM H.size) ⟨callB_of n hts (ww_in hco) rfl hRm.1 hRm.2.1 (hts _ hin) (hts _ hl) hd hRm.2.2, hts _ hi, hts _ hse⟩ ⟨qq_blind, hrecv, qq_pre_ok hP hD hK hS hA hT hN isC hC hn1⟩ rfl hlen hsize hst (lv_room hW) hdg hcs hTH X
    rw [h0] at hz hk
    obtain ⟨hPf, hDf, hSf⟩ := qq_after (T' := T') (L := L) (wr := wr) (wf := wf) hP hD hS hA isC isR isF hC hR hF hn (by rw [e1]; exact hz) (fun q h1 h2 => by rw [e1]; exact hk q h1 h2) (by rw [e1]; exact hP1) hD1 hL
    refine ⟨o, T', L, X', ?_, hPf, hDf, hSf, hor⟩
    rcases hoc with h | ⟨x, ce, h1, h2, h3, h4⟩
    · exact Or.inl h
    · exact Or.inr ⟨x, ce, h1, by rw [e1]; exact h2, h3, by rw [e2]; exact h4⟩
/-- it returned -/
theorem qq_VX0 (S : CallFix p m c cc nL s args ww_all own) (hM : qq_dex l y (ww_of y bytes maxL ret) rm D tys (.ref b :: As) wc 0 v w1 mc ms)
    (hl : Cond.methodLink own index y ∈ ww_all) (hi : Cond.instanceMethod y ∈ ww_all) (hse : Cond.selects C y y ∈ ww_all) (hco : Cond.code y bytes maxL ret ∈ ww_all) (hin : Cond.initialized y.cls ∈ ww_all)
    (hd : y.cls ≠ "java/lang/invoke/MethodHandle" ∧ y.cls ≠ "java/lang/invoke/VarHandle" ∧ (parseMethodDescriptor y.desc).map (fun d => d.parameters.length) = some n) (hRm : rm.cells = mc ∧ rm.slots = ms ∧ rm.frames + 1 ≤ R.frames ∧ 8 + (maxL + 11) + rm.locals ≤ R.locals)
    (hcs : cells + mc ≤ R.cells ∧ slots + ms ≤ R.slots) (hP : va_P D classes ws H) (hD : va_D A ws) (hK : va_K D classes tys s) (hS : va_S A s.heap H locs) (hA : ∀ q : Nat, s.heap.size ≤ q → A q) (hT : qq_T A s s.heap) (hN : qq_N s)
    {q0 ci : Nat} {fs : List Value} (he : ws[q0]? = some (b, .inr (ci, fs))) (hc : (classes[ci]?).map (fun q => q.1) = some C)
    (isC isR isF : List Nat) (hC : isC.map (fun i => ws[i]?) = wc.map some) (hR : isR.map (fun i => ws[i]?) = wr.map some) (hF : isF.map (fun i => (wr ++ w1)[i]?) = wf.map some) (hn : (va_nd isC && (va_nd isR && (va_nd isF && isR.all (fun i => !isC.contains i)))) = true)
    (hlen : As.length = n) (hsize : ls.size = nL) (hst : st0 = As.reverse ++ .ref b :: rest) (hW : (rest.map fun v => v.category).sum ≤ 8) (hdg : decode cc pc = .ok (.invokevirtual index, 3))
    (kk : ∀ (H1 : Heap) (locs1 : List Loc), va_P D classes wf H1 → va_D A wf → va_S A s.heap H1 locs1 → W p l e R s m args below meth c H1 locs1 (cells + mc) (slots + ms) Q (F0 m (pc + 3) ls (v.toList ++ rest))) : W p l e R s m args below meth c H locs cells slots Q (F0 m pc ls st0) := by
  intro T hTH X
  obtain ⟨o, T', L, X', hoc, hPf, hDf, hSf, hor⟩ := qq_VX (wr := wr) (wf := wf) S hM hl hi hse hco hin hd hRm hcs hP hD hK hS hA hT hN he hc isC isR isF hC hR hF hn hlen hsize hst hW hdg hTH X
  have ho : o = .returned v := by
    rcases hoc with h | ⟨x, ce, h1, h2, h3, h4⟩
    · exact h.2
    · rcases h4 with h4 | h4
      · exact absurd h4.1 (by decide)
      · exact absurd h4.1 (by decide)
  subst ho
  rcases hor with ⟨v', h1, hs⟩ | ⟨x, h1, hs⟩
  · cases h1
    obtain ⟨t2, a1, b1⟩ := kk T'.heap (locs ++ L) hPf hDf hSf T' rfl X'
    exact ⟨t2, hs t2 a1, b1⟩
  · cases h1
/-- it threw, and the caller with it -/
theorem qq_VX1 {MC MS : Nat} {v' : Option Value} (S : CallFix p m c cc nL s args ww_all own) (hM : qq_dex l y (ww_of y bytes maxL ret) rm D tys (.ref b :: As) wc z v w1 mc ms)
    (hl : Cond.methodLink own index y ∈ ww_all) (hi : Cond.instanceMethod y ∈ ww_all) (hse : Cond.selects C y y ∈ ww_all) (hco : Cond.code y bytes maxL ret ∈ ww_all) (hin : Cond.initialized y.cls ∈ ww_all)
    (hd : y.cls ≠ "java/lang/invoke/MethodHandle" ∧ y.cls ≠ "java/lang/invoke/VarHandle" ∧ (parseMethodDescriptor y.desc).map (fun d => d.parameters.length) = some n) (hRm : rm.cells = mc ∧ rm.slots = ms ∧ rm.frames + 1 ≤ R.frames ∧ 8 + (maxL + 11) + rm.locals ≤ R.locals)
    (hcs : cells + mc ≤ R.cells ∧ slots + ms ≤ R.slots) (hP : va_P D classes ws H) (hD : va_D A ws) (hK : va_K D classes tys s) (hS : va_S A s.heap H locs) (hA : ∀ q : Nat, s.heap.size ≤ q → A q) (hT : qq_T A s s.heap) (hN : qq_N s)
    {q0 ci : Nat} {fs : List Value} (he : ws[q0]? = some (b, .inr (ci, fs))) (hc : (classes[ci]?).map (fun q => q.1) = some C)
    (isC isR isF : List Nat) (hC : isC.map (fun i => ws[i]?) = wc.map some) (hR : isR.map (fun i => ws[i]?) = wr.map some) (hF : isF.map (fun i => (wr ++ w1)[i]?) = wf.map some) (hn : (va_nd isC && (va_nd isR && (va_nd isF && isR.all (fun i => !isC.contains i)))) = true)
    (hlen : As.length = n) (hsize : ls.size = nL) (hst : st0 = As.reverse ++ .ref b :: rest) (hW : (rest.map fun v => v.category).sum ≤ 8) (hdg : decode cc pc = .ok (.invokevirtual index, 3))
    (hz : ¬ z = 0) (hex : c.exceptionTable.isEmpty = true) (hlocks : meth.locks = false) (hm9 : cells + mc ≤ MC ∧ slots + ms ≤ MS) (hQ : Q = qq_MX below (qq_retx D tys z v' wf A) args s MC MS A) : W p l e R s m args below meth c H locs cells slots Q (F0 m pc ls st0) := by
  intro T hTH X
  obtain ⟨o, T', L, X', hoc, hPf, hDf, hSf, hor⟩ := qq_VX (wr := wr) (wf := wf) S hM hl hi hse hco hin hd hRm hcs hP hD hK hS hA hT hN he hc isC isR isF hC hR hF hn hlen hsize hst hW hdg hTH X
  rcases hoc with h | ⟨x, ce, h1, h2, h3, h4⟩
  · exact absurd h.1 hz
  · subst h1
    rcases hor with ⟨v9, h9, hs⟩ | ⟨x9, h9, hs⟩
    · cases h9
    · cases h9
      obtain ⟨hst9, hrun, hend, hW9, hsame⟩ := X'.leaveThrown x (g := F0 m pc ls rest) rfl rfl rfl (fun y hy => by
        have h9 : c.exceptionTable.toList = [] := by simpa [Array.isEmpty] using hex
        rw [h9] at hy
        exact absurd hy List.not_mem_nil) hlocks
      refine ⟨_, hs _ hst9, ?_⟩
      rw [hQ]
      exact ⟨.threw x, hrun, hend, ⟨⟨Or.inr ⟨x, ce, rfl, h2, h3, h4⟩, hPf, va_K.moved hW9.alike hK, hDf⟩, hSf.1, fun q h1 h2 => hSf.2.1 q h1 h2⟩, locs ++ L, hW9, hsame.mono hm9.1 hm9.2, hSf.2.2⟩
theorem qq_xiret {x : Int32} (hx : p.tables.exec = Jvm.exec) (hb : c.code = cc) (hr : meth.sig.returnType = some .int) (hlocks : meth.locks = false) (hcm : cells ≤ mc ∧ slots ≤ ms) (hQ : Q = qq_MX below (qq_retx D tys 0 (some (.int x)) w1 A) args s mc ms A) (hP : va_P D classes w1 H) (hD : va_D A w1) (hK : va_K D classes tys s) (hS : va_S A s.heap H locs) (hdg : decode cc pc = .ok (.ireturn, 1)) : W p l e R s m args below meth c H locs cells slots Q (F0 m pc ls [.int x]) := by
  refine W.widen hcm.1 hcm.2 ?_
  intro T hT X
  obtain ⟨t, a, b⟩ := (W.iret (Qc := qq_retx D tys 0 (some (.int x)) w1 A) (free := A) hx hb hr (fun t ht hW => ⟨⟨Or.inl ⟨rfl, rfl⟩, by rw [ht]; exact hP, va_K.moved hW.alike hK, hD⟩, hS.F ht⟩) hS.2.2 hdg hlocks : W p l e R s m args below meth c H locs mc ms (MQ below (qq_retx D tys 0 (some (.int x)) w1 A) args s mc ms A) (F0 m pc ls [.int x])) T hT X
  exact ⟨t, a, by rw [hQ]; exact qq_MX_of b⟩
theorem qq_xzret {x : Int32} (hx : p.tables.exec = Jvm.exec) (hb : c.code = cc) (hr : meth.sig.returnType = some .boolean) (hz : narrow .boolean (.int x) = .int x) (hlocks : meth.locks = false) (hcm : cells ≤ mc ∧ slots ≤ ms) (hQ : Q = qq_MX below (qq_retx D tys 0 (some (.int x)) w1 A) args s mc ms A) (hP : va_P D classes w1 H) (hD : va_D A w1) (hK : va_K D classes tys s) (hS : va_S A s.heap H locs) (hdg : decode cc pc = .ok (.ireturn, 1)) : W p l e R s m args below meth c H locs cells slots Q (F0 m pc ls [.int x]) := by
  refine W.widen hcm.1 hcm.2 ?_
  intro T hT X
  obtain ⟨t, a, b⟩ := (W.zret (Qc := qq_retx D tys 0 (some (.int x)) w1 A) (free := A) hx hb hr hz (fun t ht hW => ⟨⟨Or.inl ⟨rfl, rfl⟩, by rw [ht]; exact hP, va_K.moved hW.alike hK, hD⟩, hS.F ht⟩) hS.2.2 hdg hlocks : W p l e R s m args below meth c H locs mc ms (MQ below (qq_retx D tys 0 (some (.int x)) w1 A) args s mc ms A) (F0 m pc ls [.int x])) T hT X
  exact ⟨t, a, by rw [hQ]; exact qq_MX_of b⟩
theorem qq_xvret (hx : p.tables.exec = Jvm.exec) (hb : c.code = cc) (hr : meth.sig.returnType = none) (hlocks : meth.locks = false) (hcm : cells ≤ mc ∧ slots ≤ ms) (hQ : Q = qq_MX below (qq_retx D tys 0 none w1 A) args s mc ms A) (hP : va_P D classes w1 H) (hD : va_D A w1) (hK : va_K D classes tys s) (hS : va_S A s.heap H locs) (hdg : decode cc pc = .ok (.return_, 1)) : W p l e R s m args below meth c H locs cells slots Q (F0 m pc ls []) := by
  refine W.widen hcm.1 hcm.2 ?_
  intro T hT X
  obtain ⟨t, a, b⟩ := (W.vret (Qc := qq_retx D tys 0 none w1 A) (free := A) hx hb hr (fun t ht hW => ⟨⟨Or.inl ⟨rfl, rfl⟩, by rw [ht]; exact hP, va_K.moved hW.alike hK, hD⟩, hS.F ht⟩) hS.2.2 hdg hlocks : W p l e R s m args below meth c H locs mc ms (MQ below (qq_retx D tys 0 none w1 A) args s mc ms A) (F0 m pc ls [])) T hT X
  exact ⟨t, a, by rw [hQ]; exact qq_MX_of b⟩
end QY
