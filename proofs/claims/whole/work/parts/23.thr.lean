theorem qq_ca_use {C : String} {args : Array Value} {U : State} (h : qq_ca C U) : (Cond.castable C C).before args U = true := by
  obtain ⟨c, h1, h2⟩ := h
  simp [Cond.before, Cond.holds, Cond.value, h1, h2]
theorem qq_x1_lays {n d : String} {args : Array Value} {A : Nat → Prop} {U : State} (h : qq_x1 n d A U U.heap) : (Cond.laysStatic Bundle.tN n d).before args U = true := by
  obtain ⟨c, i, a, k, f, cell, v, h1, h2, h3, h4, h5, h6, h7, h8, h9, h10, h11, h12⟩ := h
  exact Cond.laysStatic_of h1 h2 h3 h4 h5 h6 h7 h8 h9
theorem qq_x1_ref {n d : String} {args : Array Value} {A : Nat → Prop} {U : State} (h : qq_x1 n d A U U.heap) : (Cond.isRef (.static Bundle.tN n d)).before args U = true := by
  obtain ⟨c, i, a, k, f, cell, v, h1, h2, h3, h4, h5, h6, h7, h8, h9, h10, h11, h12⟩ := h
  have hv : (Term.static Bundle.tN n d).eval args U none [] U = some v := by
    simp [Term.eval, State.fieldNamed?, h2, h3, h4, h5, h6, h10]
  cases v <;> simp_all [Cond.before, Cond.holds, Cond.value, Value.isRef]
set_option maxRecDepth 20000 in
set_option maxHeartbeats 4000000 in
theorem qq_own_I {args : Array Value} {U : State} {A : Nat → Prop} (hts : ∀ w ∈ ww_all, w.before args U = true) (hE : qq_E U) (hT : qq_T A U U.heap) : ∀ w ∈ Bundle.ownAtoms "RuledBoard" 95 xx_I ["java/lang/RuntimeException", "java/lang/Exception"], w.before args U = true := by
  obtain ⟨⟨d1, d2, d3⟩, hcI, hcA, -, -⟩ := hE
  obtain ⟨-, hU, hV⟩ := hT
  intro w hw
  simp only [Bundle.ownAtoms, Bundle.throwableAtoms, Bundle.throwableSAtoms, Bundle.chainSAtoms, Bundle.passSAtoms, List.append_assoc, List.cons_append, List.nil_append, List.mem_cons, List.not_mem_nil, or_false] at hw
  rcases hw with rfl | rfl | rfl | rfl | rfl | rfl | rfl | rfl | rfl | rfl | rfl | rfl | rfl | rfl | rfl | rfl | rfl | rfl | rfl | rfl | rfl | rfl | rfl | rfl | rfl | rfl | rfl | rfl | rfl | rfl | rfl | rfl | rfl | rfl | rfl | rfl | rfl | rfl | rfl | rfl | rfl | rfl | rfl | rfl | rfl | rfl | rfl | rfl | rfl | rfl | rfl | rfl | rfl | rfl | rfl | rfl | rfl
  · exact hts _ (ww_m (List.mem_of_getElem? (i := 9) (by decide +kernel)) rfl)
  · exact hts _ (ww_m (List.mem_of_getElem? (i := 286) (by decide +kernel)) rfl)
  · exact hts _ (ww_m (List.mem_of_getElem? (i := 295) (by decide +kernel)) rfl)
  · exact hts _ (ww_m (List.mem_of_getElem? (i := 298) (by decide +kernel)) rfl)
  · exact hts _ (ww_m (List.mem_of_getElem? (i := 301) (by decide +kernel)) rfl)
  · exact hts _ (ww_m (List.mem_of_getElem? (i := 303) (by decide +kernel)) rfl)
  · exact hts _ (ww_m (List.mem_of_getElem? (i := 287) (by decide +kernel)) rfl)
  · exact hts _ (ww_m (List.mem_of_getElem? (i := 288) (by decide +kernel)) rfl)
  · exact hts _ (ww_m (List.mem_of_getElem? (i := 22) (by decide +kernel)) rfl)
  · exact hts _ (ww_m (List.mem_of_getElem? (i := 23) (by decide +kernel)) rfl)
  · exact hts _ (ww_m (List.mem_of_getElem? (i := 289) (by decide +kernel)) rfl)
  · exact hts _ (ww_m (List.mem_of_getElem? (i := 294) (by decide +kernel)) rfl)
  · exact hts _ (ww_m (List.mem_of_getElem? (i := 299) (by decide +kernel)) rfl)
  · exact hts _ (ww_m (List.mem_of_getElem? (i := 319) (by decide +kernel)) rfl)
  · exact hts _ (ww_m (List.mem_of_getElem? (i := 276) (by decide +kernel)) rfl)
  · exact hts _ (ww_m (List.mem_of_getElem? (i := 320) (by decide +kernel)) rfl)
  · exact hts _ (ww_m (List.mem_of_getElem? (i := 278) (by decide +kernel)) rfl)
  · exact hts _ (ww_m (List.mem_of_getElem? (i := 321) (by decide +kernel)) rfl)
  · exact hts _ (ww_m (List.mem_of_getElem? (i := 280) (by decide +kernel)) rfl)
  · exact hts _ (ww_m (List.mem_of_getElem? (i := 290) (by decide +kernel)) rfl)
  · exact qq_x1_lays hU
  · exact hts _ (ww_m (List.mem_of_getElem? (i := 292) (by decide +kernel)) rfl)
  · exact qq_x1_lays hV
  · exact hts _ (ww_m (List.mem_of_getElem? (i := 282) (by decide +kernel)) rfl)
  · exact hts _ (ww_m (List.mem_of_getElem? (i := 315) (by decide +kernel)) rfl)
  · exact hts _ (ww_m (List.mem_of_getElem? (i := 316) (by decide +kernel)) rfl)
  · exact hts _ (ww_m (List.mem_of_getElem? (i := 318) (by decide +kernel)) rfl)
  · exact hts _ (ww_m (List.mem_of_getElem? (i := 282) (by decide +kernel)) rfl)
  · exact hts _ (ww_m (List.mem_of_getElem? (i := 306) (by decide +kernel)) rfl)
  · exact hts _ (ww_m (List.mem_of_getElem? (i := 307) (by decide +kernel)) rfl)
  · exact hts _ (ww_m (List.mem_of_getElem? (i := 308) (by decide +kernel)) rfl)
  · exact hts _ (ww_m (List.mem_of_getElem? (i := 309) (by decide +kernel)) rfl)
  · exact va_Nw.use rfl d1
  · exact hts _ (ww_m (List.mem_of_getElem? (i := 309) (by decide +kernel)) rfl)
  · exact hts _ (ww_m (List.mem_of_getElem? (i := 310) (by decide +kernel)) rfl)
  · exact hts _ (ww_m (List.mem_of_getElem? (i := 311) (by decide +kernel)) rfl)
  · exact hts _ (ww_m (List.mem_of_getElem? (i := 312) (by decide +kernel)) rfl)
  · exact va_Nw.use rfl d2
  · exact hts _ (ww_m (List.mem_of_getElem? (i := 312) (by decide +kernel)) rfl)
  · exact hts _ (ww_m (List.mem_of_getElem? (i := 313) (by decide +kernel)) rfl)
  · exact hts _ (ww_m (List.mem_of_getElem? (i := 314) (by decide +kernel)) rfl)
  · exact hts _ (ww_m (List.mem_of_getElem? (i := 315) (by decide +kernel)) rfl)
  · exact va_Nw.use rfl d3
  · exact hts _ (ww_m (List.mem_of_getElem? (i := 305) (by decide +kernel)) rfl)
  · exact hts _ (ww_m (List.mem_of_getElem? (i := 265) (by decide +kernel)) rfl)
  · exact qq_ca_use hcI
  · exact hts _ (ww_m (List.mem_of_getElem? (i := 273) (by decide +kernel)) rfl)
  · exact hts _ (ww_m (List.mem_of_getElem? (i := 274) (by decide +kernel)) rfl)
  · exact hts _ (ww_m (List.mem_of_getElem? (i := 275) (by decide +kernel)) rfl)
  · exact hts _ (ww_m (List.mem_of_getElem? (i := 277) (by decide +kernel)) rfl)
  · exact hts _ (ww_m (List.mem_of_getElem? (i := 279) (by decide +kernel)) rfl)
  · exact hts _ (ww_m (List.mem_of_getElem? (i := 281) (by decide +kernel)) rfl)
  · exact qq_x1_ref hU
  · exact qq_x1_ref hV
  · exact hts _ (ww_m (List.mem_of_getElem? (i := 285) (by decide +kernel)) rfl)
  · exact hts _ (ww_m (List.mem_of_getElem? (i := 284) (by decide +kernel)) rfl)
  · exact hts _ (ww_m (List.mem_of_getElem? (i := 283) (by decide +kernel)) rfl)
set_option maxRecDepth 20000 in
set_option maxHeartbeats 4000000 in
theorem qq_own_A {args : Array Value} {U : State} {A : Nat → Prop} (hts : ∀ w ∈ ww_all, w.before args U = true) (hE : qq_E U) (hT : qq_T A U U.heap) : ∀ w ∈ Bundle.ownAtoms "RuledBoard" 69 xx_A ["java/lang/RuntimeException", "java/lang/Exception"], w.before args U = true := by
  obtain ⟨⟨d1, d2, d3⟩, hcI, hcA, -, -⟩ := hE
  obtain ⟨-, hU, hV⟩ := hT
  intro w hw
  simp only [Bundle.ownAtoms, Bundle.throwableAtoms, Bundle.throwableSAtoms, Bundle.chainSAtoms, Bundle.passSAtoms, List.append_assoc, List.cons_append, List.nil_append, List.mem_cons, List.not_mem_nil, or_false] at hw
  rcases hw with rfl | rfl | rfl | rfl | rfl | rfl | rfl | rfl | rfl | rfl | rfl | rfl | rfl | rfl | rfl | rfl | rfl | rfl | rfl | rfl | rfl | rfl | rfl | rfl | rfl | rfl | rfl | rfl | rfl | rfl | rfl | rfl | rfl | rfl | rfl | rfl | rfl | rfl | rfl | rfl | rfl | rfl | rfl | rfl | rfl | rfl | rfl | rfl | rfl | rfl | rfl | rfl | rfl | rfl | rfl | rfl | rfl
  · exact hts _ (ww_m (List.mem_of_getElem? (i := 9) (by decide +kernel)) rfl)
  · exact hts _ (ww_m (List.mem_of_getElem? (i := 286) (by decide +kernel)) rfl)
  · exact hts _ (ww_m (List.mem_of_getElem? (i := 295) (by decide +kernel)) rfl)
  · exact hts _ (ww_m (List.mem_of_getElem? (i := 298) (by decide +kernel)) rfl)
  · exact hts _ (ww_m (List.mem_of_getElem? (i := 301) (by decide +kernel)) rfl)
  · exact hts _ (ww_m (List.mem_of_getElem? (i := 303) (by decide +kernel)) rfl)
  · exact hts _ (ww_m (List.mem_of_getElem? (i := 287) (by decide +kernel)) rfl)
  · exact hts _ (ww_m (List.mem_of_getElem? (i := 288) (by decide +kernel)) rfl)
  · exact hts _ (ww_m (List.mem_of_getElem? (i := 22) (by decide +kernel)) rfl)
  · exact hts _ (ww_m (List.mem_of_getElem? (i := 23) (by decide +kernel)) rfl)
  · exact hts _ (ww_m (List.mem_of_getElem? (i := 289) (by decide +kernel)) rfl)
  · exact hts _ (ww_m (List.mem_of_getElem? (i := 294) (by decide +kernel)) rfl)
  · exact hts _ (ww_m (List.mem_of_getElem? (i := 299) (by decide +kernel)) rfl)
  · exact hts _ (ww_m (List.mem_of_getElem? (i := 319) (by decide +kernel)) rfl)
  · exact hts _ (ww_m (List.mem_of_getElem? (i := 276) (by decide +kernel)) rfl)
  · exact hts _ (ww_m (List.mem_of_getElem? (i := 320) (by decide +kernel)) rfl)
  · exact hts _ (ww_m (List.mem_of_getElem? (i := 278) (by decide +kernel)) rfl)
  · exact hts _ (ww_m (List.mem_of_getElem? (i := 321) (by decide +kernel)) rfl)
  · exact hts _ (ww_m (List.mem_of_getElem? (i := 280) (by decide +kernel)) rfl)
  · exact hts _ (ww_m (List.mem_of_getElem? (i := 290) (by decide +kernel)) rfl)
  · exact qq_x1_lays hU
  · exact hts _ (ww_m (List.mem_of_getElem? (i := 292) (by decide +kernel)) rfl)
  · exact qq_x1_lays hV
  · exact hts _ (ww_m (List.mem_of_getElem? (i := 282) (by decide +kernel)) rfl)
  · exact hts _ (ww_m (List.mem_of_getElem? (i := 315) (by decide +kernel)) rfl)
  · exact hts _ (ww_m (List.mem_of_getElem? (i := 316) (by decide +kernel)) rfl)
  · exact hts _ (ww_m (List.mem_of_getElem? (i := 318) (by decide +kernel)) rfl)
  · exact hts _ (ww_m (List.mem_of_getElem? (i := 282) (by decide +kernel)) rfl)
  · exact hts _ (ww_m (List.mem_of_getElem? (i := 342) (by decide +kernel)) rfl)
  · exact hts _ (ww_m (List.mem_of_getElem? (i := 343) (by decide +kernel)) rfl)
  · exact hts _ (ww_m (List.mem_of_getElem? (i := 344) (by decide +kernel)) rfl)
  · exact hts _ (ww_m (List.mem_of_getElem? (i := 309) (by decide +kernel)) rfl)
  · exact va_Nw.use rfl d1
  · exact hts _ (ww_m (List.mem_of_getElem? (i := 309) (by decide +kernel)) rfl)
  · exact hts _ (ww_m (List.mem_of_getElem? (i := 310) (by decide +kernel)) rfl)
  · exact hts _ (ww_m (List.mem_of_getElem? (i := 311) (by decide +kernel)) rfl)
  · exact hts _ (ww_m (List.mem_of_getElem? (i := 312) (by decide +kernel)) rfl)
  · exact va_Nw.use rfl d2
  · exact hts _ (ww_m (List.mem_of_getElem? (i := 312) (by decide +kernel)) rfl)
  · exact hts _ (ww_m (List.mem_of_getElem? (i := 313) (by decide +kernel)) rfl)
  · exact hts _ (ww_m (List.mem_of_getElem? (i := 314) (by decide +kernel)) rfl)
  · exact hts _ (ww_m (List.mem_of_getElem? (i := 315) (by decide +kernel)) rfl)
  · exact va_Nw.use rfl d3
  · exact hts _ (ww_m (List.mem_of_getElem? (i := 341) (by decide +kernel)) rfl)
  · exact hts _ (ww_m (List.mem_of_getElem? (i := 332) (by decide +kernel)) rfl)
  · exact qq_ca_use hcA
  · exact hts _ (ww_m (List.mem_of_getElem? (i := 334) (by decide +kernel)) rfl)
  · exact hts _ (ww_m (List.mem_of_getElem? (i := 297) (by decide +kernel)) rfl)
  · exact hts _ (ww_m (List.mem_of_getElem? (i := 335) (by decide +kernel)) rfl)
  · exact hts _ (ww_m (List.mem_of_getElem? (i := 336) (by decide +kernel)) rfl)
  · exact hts _ (ww_m (List.mem_of_getElem? (i := 337) (by decide +kernel)) rfl)
  · exact hts _ (ww_m (List.mem_of_getElem? (i := 338) (by decide +kernel)) rfl)
  · exact qq_x1_ref hU
  · exact qq_x1_ref hV
  · exact hts _ (ww_m (List.mem_of_getElem? (i := 285) (by decide +kernel)) rfl)
  · exact hts _ (ww_m (List.mem_of_getElem? (i := 284) (by decide +kernel)) rfl)
  · exact hts _ (ww_m (List.mem_of_getElem? (i := 339) (by decide +kernel)) rfl)
/-! methods that may throw: a sister of Met with thrown ends -/
def qq_MX (below : List Frame) (Qc : Array Value → State → Outcome → State → Prop) (a : Array Value) (s : State) (mc ms : Nat) (free : Addr → Prop) : State → Prop := fun t =>
  ∃ o, t.status = .running ∧ Ended t below o ∧ Qc a s o t ∧ ∃ L, s.WarmedH t.vm ∧ s.sameButNew ({ t with vm := s.vm } : State) L mc ms ∧ ∀ q ∈ L, free q.base
def qq_MetX (l : Launch) (y : MethodName) (ws : List Cond) (rm : Room) (Pc : Array Value → State → Prop) (Qc : Array Value → State → Outcome → State → Prop) (mc ms : Nat) (free : Addr → Prop) : Prop :=
  MetFree l y (headSpec ws rm) Pc (fun _ _ _ _ _ => True) (fun a st o t => Qc a st o t ∧ ∃ L, st.WarmedH t.vm ∧ st.sameButNew ({ t with vm := st.vm } : State) L mc ms ∧ ∀ q ∈ L, free q.base)
theorem qq_MX_of {below : List Frame} {Qc : Array Value → State → Outcome → State → Prop} {a : Array Value} {s : State} {mc ms : Nat} {free : Addr → Prop} {t : State} (h : MQ below Qc a s mc ms free t) : qq_MX below Qc a s mc ms free t := by
  obtain ⟨o, h1, h2, h3, L, ⟨_, h4, h5⟩, h6⟩ := h
  exact ⟨o, h1, h2, h3, L, h4, h5, h6⟩
theorem qq_MetX_ofW {l : Launch} {y : MethodName} {ws ws' : List Cond} {rm : Room} {Pc : Array Value → State → Prop} {Qc : Array Value → State → Outcome → State → Prop} {mc ms : Nat} {free : Addr → Prop} {cc : ByteArray} {maxL : Nat} {ret : Option FieldType}
    (hy : plainName y.cls = true) (hw : ws = Cond.code y cc maxL ret :: ws')
    (body : ∀ p e s m args below meth c s₁, BodyLoose p l y (headSpec ws rm) cc maxL ret e s m args below meth c s₁ → c.maxLocals = maxL → c.exceptionTable.isEmpty = true → Pc args s →
      W p l e (headSpec ws rm).room s m args below meth c s.heap [] 0 0 (qq_MX below Qc args s mc ms free) (entryFrame m args maxL)) : qq_MetX l y ws rm Pc Qc mc ms free := by
  refine MetFree.of_bodyS (code := cc) (maxLocals := maxL) (ret := ret) hy ?_ ?_
  · intro args s m h hn
    obtain ⟨meth, c, h1, h2, h3, h4, h5, h6, -, -⟩ := Cond.code_spec hn (atoms_spec (ws := ws) h _ (by rw [hw]; exact List.mem_cons_self))
    exact ⟨meth, c, h1, h2, h3, h4, h5, h6⟩
  · intro p e s m args below meth c s₁ B hml hP _
    have hh0 : s₁.heap = s.heap := by rw [B.state]; rfl
    have hex : c.exceptionTable.isEmpty = true := BodyLoose.noHandlers B (atoms_spec (ws := ws) B.pre _ (by rw [hw]; exact List.mem_cons_self))
    obtain ⟨t, a1, o, b1, b2, b3⟩ := body p e s m args below meth c s₁ B hml hex hP s₁ hh0 (Stand.of_body B)
    exact ⟨t, o, a1, b1, b2, ⟨b3.1, b3.2⟩⟩
section QR
variable {p : Program} {l : Launch} {e : Env} {R : Room} {s : State} {m : MethodId} {args : Array Value} {below : List Frame} {meth : Method} {c : Code} {T : State} {locs : List Loc} {cells slots : Nat}
/-- the walk so far forgotten: the method as if it were invoked at the state of now -/
theorem qq_rebase (X : Stand p l e R s m args below meth c T locs cells slots) (hc : cells ≤ R.cells) (hs : slots ≤ R.slots) :
    Stand p l e { R with cells := R.cells - cells, slots := R.slots - slots } (T.setFrames (.invoking m args :: below)) m args below meth c T [] 0 0 := by
  obtain ⟨g₀, hfr⟩ := X.frames_eq
  have hcur := State.cur_lt_of_frames hfr
  have hf : (T.setFrames (.invoking m args :: below)).frames = .invoking m args :: below := State.frames_setFrames _ hcur
  refine ⟨X.admits, X.cas, X.clock, hf, ?_, ?_, X.method', X.code, X.here, X.tail, State.WarmedH.refl _, ?_, ?_, ?_⟩
  · have hr := X.room
    have hl1 := State.localsInUse_invoking X.frames X.method X.code
    have hl2 := State.localsInUse_invoking hf X.method' X.code
    have h1 := X.heapSize
    have h2 := X.used
    have h3 := X.book
    have h4 : e.platform.stackLimits (T.setFrames (.invoking m args :: below)).me = e.platform.stackLimits s.me := by rw [State.stackLimits_setFrames]; exact X.limits
    have h5 : (T.setFrames (.invoking m args :: below)).me.stackBytes = s.me.stackBytes := by rw [State.stackBytes_setFrames]; exact X.bytes
    have h6 : (T.setFrames (.invoking m args :: below)).frames.length = s.frames.length := by rw [hf, X.frames]
    simp only [State.hasRoom, Bool.and_eq_true, decide_eq_true_eq] at hr ⊢
    obtain ⟨⟨⟨⟨r1, r2⟩, r3⟩, r4⟩, r5⟩ := hr
    refine ⟨⟨⟨⟨?_, ?_⟩, ?_⟩, ?_⟩, ?_⟩
    · rw [hl2, ← hl1]; exact r1
    · rw [h4, h5, h6, hl2, ← hl1]; exact r2
    · show T.heap.size + (R.cells - cells) ≤ _
      omega
    · show T.slotsUsed + (R.slots - slots) ≤ _
      omega
    · exact h3
  · have h := X.hears
    cases below with
    | nil => simpa [State.hears, X.warmed.alike.method?] using h
    | cons f r => cases f <;> simpa [State.hears, State.code?_eq, X.warmed.alike.method?] using h
  · rw [State.stackLimits_setFrames]
  · rw [State.stackBytes_setFrames]
  · obtain ⟨t, ht, -⟩ := State.frames_cons hf
    have h := (State.sameButNew.refl (T.setFrames (.invoking m args :: below)) ht).setFrames T.frames (State.cur_lt_of_frames hf)
    obtain ⟨t2, ht2, -⟩ := State.frames_cons hfr
    rw [State.setFrames_setFrames, State.setFrames_self ht2] at h
    exact h
end QR
section QX
variable {p : Program} {l : Launch} {e : Env} {R : Room} {s : State} {m : MethodId} {args : Array Value} {below : List Frame} {meth : Method} {c : Code} {T : State} {locs : List Loc} {cells slots : Nat}
variable {y : MethodName} {len Wd mc ms maxL : Nat} {ws : List Cond} {rm : Room} {Pc : Array Value → State → Prop} {Qc : Array Value → State → Outcome → State → Prop} {free : Addr → Prop} {bytes : ByteArray} {ret : Option FieldType}
theorem qq_backX (hM : qq_MetX l y ws rm Pc Qc mc ms free) (hbl : FrameBlind Pc) (hrc : rm.cells = mc) (hrs : rm.slots = ms) (hframes : rm.frames + 1 ≤ R.frames) (hlocals : Wd + (maxL + 11) + rm.locals ≤ R.locals)
    (hws : ∀ w ∈ ws, ∀ (a' : Array Value) (U : State), s.WarmedH U.vm → w.before a' U = true) (hcode : Cond.code y bytes maxL ret ∈ ws) (hinit : ∀ (a' : Array Value) (U : State), s.WarmedH U.vm → (Cond.initialized y.cls).before a' U = true)
    (X : Stand p l e R s m args below meth c T locs cells slots) {g : JFrame} {ig : Instr} {mk : MethodId} {a : Array Value} (hg : g.method = m) (hsize : g.locals.size = c.maxLocals) (hdg : decode c.code g.pc = .ok (ig, len))
    (hW : 2 * g.monitorRoom + (g.stack.map fun v => v.category).sum ≤ Wd) (hn : T.methodNamed? y = some mk) (hcs : cells + mc ≤ R.cells ∧ slots + ms ≤ R.slots) (hp : Pc a T) :
    ∃ (o : Outcome) (t T' : State) (L : List Loc), Stand p l e R s m args below meth c T' (locs ++ L) (cells + mc) (slots + ms) ∧ (∀ q ∈ L, free q.base) ∧ T'.heap = t.heap ∧ T'.vm = t.vm ∧ Qc a (T.calling g mk a) o t ∧
      ((∃ v, o = .returned v ∧ Steps p.tables e below (doInvoke e (T.setTop g) [] mk a).1 (T'.setTop { g with pc := g.pc + len, stack := v.toList ++ g.stack })) ∨ (∃ x, o = .threw x ∧ Steps p.tables e below (doInvoke e (T.setTop g) [] mk a).1 ((T'.setTop g).pushFrame (.throwing x)))) := by
  have h1 : (headSpec ws rm).pre.before a T = true := atoms_intro fun w hw => hws w hw _ _ X.warmed
  have h2 := hws _ hcode a T X.warmed
  have h3 := hinit a T X.warmed
  obtain ⟨methY, cY, hmY, hcY, -, hlY, -, -, -, -⟩ := Cond.code_spec hn h2
  obtain ⟨kY, hkY, -⟩ := className_of_methodNamed hn
  have hinitY : kY.init = .initialized := Cond.initialized_spec (findClass_of_methodNamed hn) hkY h3
  have h : At T g.method c below := by rw [hg]; exact X.here
  have happ : (headSpec ws rm).appliesLoose y e.platform (T.calling g mk a) = true :=
    Spec.appliesLoose_calling (g := g) h hdg hn hkY hinitY
      (X.room_calling (g := g) (R' := (headSpec ws rm).room) hsize hmY hcY hframes (by rw [hlY]; show _ + rm.locals ≤ _; omega) (by show cells + rm.cells ≤ _; rw [hrc]; exact hcs.1) (by show slots + rm.slots ≤ _; rw [hrs]; exact hcs.2)) h1
  obtain ⟨mid, hmid⟩ := h.above
  have hfr : (T.setTop g).frames = (.java g :: mid) ++ below := by rw [State.frames_setTop' g h.top, hmid]; rfl
  obtain ⟨o, s₂, hsteps, -, hend, hq⟩ := Steps.callFree hM p X.admits X.cas X.clock (acts := []) hfr happ (hbl _ _ _ _ hp) trivial
  have hend' : Ended s₂ (.java g :: below) o := by rw [State.frames_setTop' g h.top, X.tail] at hend; exact hend
  obtain ⟨hq1, L, hW2, hsame, hL⟩ := hq
  cases o with
  | returned v =>
    obtain ⟨T', X', hWT, hsT, ht⟩ := X.outOf hg hdg (mk := mk) (a := a) hend' hW2 hsame
    refine ⟨.returned v, s₂, T', L, X', hL, ?_, ?_, hq1, Or.inl ⟨v, rfl, ?_⟩⟩
    · rw [ht]; simp [State.setTop, State.modifyTopJava, State.setFrames]
    · rw [ht]; simp [State.setTop, State.modifyTopJava, State.setFrames]
    · rw [← ht]; exact hsteps
  | threw x =>
    obtain ⟨T', X', hWT, hsT, ht⟩ := X.outOfThrown hg (mk := mk) (a := a) hend' hW2 hsame
    refine ⟨.threw x, s₂, T', L, X', hL, ?_, ?_, hq1, Or.inr ⟨x, rfl, ?_⟩⟩
    · rw [ht, Stand.throwing_heap]
    · rw [ht, Stand.throwing_vm]
    · rw [← ht]; exact hsteps
theorem qq_runVX {own C : String} {index n : Nat} {cc : ByteArray} {nL : Nat} {b : Addr} {As rest : List Value} {H : Heap} (S : CallFix p m c cc nL s args ww_all own) (hM : qq_MetX l y ws rm Pc Qc mc ms free) (cw : CallW R s args own C index y bytes maxL ret ws rm mc ms n) (hp : PreV s H C b Pc As) {g : JFrame}
    (hg : g.method = m) (hn : As.length = n) (hsize : g.locals.size = nL) (hstack : g.stack = As.reverse ++ .ref b :: rest) (hW : 2 * g.monitorRoom + (rest.map fun v => v.category).sum ≤ 8) (hdg : decode cc g.pc = .ok (.invokevirtual index, 3)) (hcs : cells + mc ≤ R.cells ∧ slots + ms ≤ R.slots)
    (hT : T.heap = H) (X : Stand p l e R s m args below meth c T locs cells slots) :
    ∃ (o : Outcome) (st₀ t T' : State) (L : List Loc), st₀.heap = H ∧ Stand p l e R s m args below meth c T' (locs ++ L) (cells + mc) (slots + ms) ∧ (∀ q ∈ L, free q.base) ∧ T'.heap = t.heap ∧ T'.vm = t.vm ∧ Qc (Value.ref b :: As).toArray st₀ o t ∧
      ((∃ v, o = .returned v ∧ ∀ tg, Steps p.tables e below (T'.setTop { g with pc := g.pc + 3, stack := v.toList ++ rest }) tg → Steps p.tables e below (T.setTop g) tg) ∨ (∃ x, o = .threw x ∧ ∀ tg, Steps p.tables e below ((T'.setTop { g with stack := rest }).pushFrame (.throwing x)) tg → Steps p.tables e below (T.setTop g) tg)) := by
  obtain ⟨⟨hrc, hrs, hfr, hlo, hws, hcw, hcode, hini, hy, hlen, hlink⟩, hinst, hsel⟩ := cw
  obtain ⟨hx, hb, hml, hown, -⟩ := S
  obtain ⟨hbl, ⟨cellB, hcB, hoB, hclB⟩, hPc⟩ := hp
  obtain ⟨mk, methM, hnamed, hmethM, hstM, habM⟩ := Cond.instanceMethod_spec hinst
  obtain ⟨methM', cM, hmethM', -, -, -, -, -, -, hsigM⟩ := Cond.code_spec hnamed hcode
  cases hmethM.symm.trans hmethM'
  obtain ⟨c2, r2, m2, q1, q2, q3, q4, kP, hkP, hkPi⟩ := Cond.selects_spec hsel
  cases hclB.symm.trans q1
  cases (State.methodFound?_of_named hnamed hy).symm.trans q2
  cases hnamed.symm.trans q3
  have hselP : selectMethod e.platform s.vm cellB.cls mk = .method mk := by rw [Launch.admits_selectMethod X.admits]; exact q4
  obtain ⟨vm₁, X₁, hstep₁⟩ := X.invokevirtual hx hown hlink hnamed hmethM hstM hkP hkPi hy (a := b) (cell := cellB) (by rw [hT]; exact hcB)
    (fun z h => by rw [h] at hoB; cases hoB) hselP hmethM habM hkP hkPi (g := g) hg (argsL := As) (rest := rest) (hn.trans (hlen _ hsigM)) hstack (by rw [hb]; exact hdg)
  obtain ⟨o, t, T', L, X', hL, e1, e2, hq, hor⟩ := qq_backX (len := 3) (Wd := 8) (bytes := bytes) (maxL := maxL) (ret := ret) hM hbl hrc hrs hfr hlo hws hcw (fun a' U hW => word_at hW (Or.inl (by first | rfl | simp [Cond.onTables, Cond.keeps, Cond.steady])) hini) X₁ (g := { g with stack := rest }) (ig := .invokevirtual index) (mk := mk) (a := (Value.ref b :: As).toArray) hg (hsize.trans hml.symm) (by rw [hb]; exact hdg) hW (X₁.named hnamed) hcs (hPc (T.setVm vm₁) hT X₁.warmed)
  refine ⟨o, (T.setVm vm₁).calling { g with stack := rest } mk (Value.ref b :: As).toArray, t, T', L, hT, X', hL, e1, e2, hq, ?_⟩
  rcases hor with ⟨v, ho, hs⟩ | ⟨x, ho, hs⟩
  · exact Or.inl ⟨v, ho, fun tg h => hstep₁ _ fun acts => by rw [doInvoke_state]; exact hs.trans h⟩
  · exact Or.inr ⟨x, ho, fun tg h => hstep₁ _ fun acts => by rw [doInvoke_state]; exact hs.trans h⟩
end QX
theorem qq_same0 {s t : State} {k n : Nat} (h : s.sameButNew t [] k n) {a : Nat} (ha : a < s.heap.size) : t.heap[a]? = s.heap[a]? := by
  obtain ⟨cell, hc⟩ : ∃ cell, s.heap[a]? = some cell := ⟨s.heap[a], Array.getElem?_eq_getElem ha⟩
  obtain ⟨c', h1, h2, h3, h4⟩ := h.2.2.2.2.2 a cell hc
  have e : c'.slots = cell.slots := by
    apply Array.ext_getElem?
    intro i
    exact h4 i List.not_mem_nil
  rw [h1, hc, h2, e]
theorem qq_sameF {T t : State} {f : List Frame} {L : List Loc} {k n : Nat} (h : (T.setFrames f).sameButNew t L k n) : T.sameButNew t L k n := by
  obtain ⟨h1, h2⟩ := h
  refine ⟨?_, h2⟩
  rw [State.setFrames_setFrames] at h1
  exact h1
def qq_oc (z : Int32) (v : Option Value) (oc : Outcome) (t : State) : Prop := (z = 0 ∧ oc = .returned v) ∨ (∃ (x : Nat) (ce : Cell), oc = .threw x ∧ t.heap[x]? = some ce ∧ ce.vm = .none ∧ ((z = 1 ∧ t.vm.findClass xx_I = some ce.cls) ∨ (z = 2 ∧ t.vm.findClass xx_A = some ce.cls)))
def qq_retx (D : va_G) (tys : List (ClassId × FieldType)) (z : Int32) (v : Option Value) (w1 : va_W) (A : Nat → Prop) : Array Value → State → Outcome → State → Prop :=
  fun _ st oc t => (qq_oc z v oc t ∧ va_P D classes w1 t.heap ∧ va_K D classes tys t ∧ va_D A w1) ∧ va_F A st t
section QT
variable {p : Program} {l : Launch} {e : Env} {R : Room} {s : State} {m : MethodId} {args : Array Value} {below : List Frame} {meth : Method} {c : Code} {H : Heap} {locs : List Loc} {cells slots : Nat} {Q : State → Prop}
variable {cc : ByteArray} {pc : Nat} {ls : Array Slot} {D : va_G} {tys : List (ClassId × FieldType)} {A : Nat → Prop} {w1 : va_W} {v : Option Value}
theorem qq_thr {X : String} {z : Int32} {ic ii is mc ms nL : Nat} {tx : String} (hno : ∀ e' : Env, l.admits e' → e'.platform.stackTraces = false)
    (hx : p.tables.exec = Jvm.exec) (hb : c.code = cc) (hml : c.maxLocals = nL) (hlocks : meth.locks = false) (hex : c.exceptionTable.isEmpty = true) (hown : s.vm.findClass RR_B = some m.cls) (hts : ∀ w ∈ ww_all, w.before args s = true) (hK : va_K D classes tys s) (hT : qq_T A s s.heap) (hN : qq_N s)
    (hX : (X = xx_I ∧ z = 1 ∧ ii = 95) ∨ (X = xx_A ∧ z = 2 ∧ ii = 69)) (hcl : Cond.classLink RR_B ic X ∈ ww_all) (hins : Cond.instantiable X 6 ∈ ww_all) (hini : Cond.initialized X ∈ ww_all) (htx : ∃ q : Nat, vk_R RR_B is tx q s)
    (hcs : cells + 1 ≤ R.cells ∧ slots + 6 ≤ R.slots ∧ 5 < R.frames ∧ 82 ≤ R.locals) (hmc : cells + 1 ≤ mc ∧ slots + 6 ≤ ms) (hQ : Q = qq_MX below (qq_retx D tys z v w1 A) args s mc ms A) (hP : va_P D classes w1 H) (hD : va_D A w1) (hS : va_S A s.heap H locs) (hsz : ls.size = nL)
    (d0 : decode cc pc = .ok (.new ic, 3)) (d1 : decode cc (pc + 3) = .ok (.dup, 1)) (d2 : decode cc (pc + 3 + 1) = .ok (.ldc is, 2)) (d3 : decode cc (pc + 3 + 1 + 2) = .ok (.invokespecial ii, 3)) (d4 : decode cc (pc + 3 + 1 + 2 + 3) = .ok (.athrow, 1)) :
    W p l e R s m args below meth c H locs cells slots Q (F0 m pc ls []) := by
  intro T hTH X0
  have X1 := qq_rebase X0 (by omega) (by omega)
  obtain ⟨q, hq⟩ := htx
  have hW0 : s.WarmedH (T.setFrames (.invoking m args :: below)).vm := X0.warmed
  have hts' : ∀ w ∈ ww_all, w.before args (T.setFrames (.invoking m args :: below)) = true := fun w hw => word_at hW0 (good_of_word (List.mem_filter.mp hw).2) (hts w hw)
  have hE' : qq_E (T.setFrames (.invoking m args :: below)) := qq_E_warm hW0 hN.2.2
  have hsH : (T.setFrames (.invoking m args :: below)).heap = H := hTH
  have hT' : qq_T A (T.setFrames (.invoking m args :: below)) (T.setFrames (.invoking m args :: below)).heap := by
    rw [hsH]
    exact qq_T_moved hW0.alike (qq_T_kept hT (fun a h1 h2 => hS.2.1 a h1 h2))
  have hown' : (T.setFrames (.invoking m args :: below)).vm.findClass RR_B = some m.cls := by rw [hW0.alike.findClass]; exact hown
  have htx' : vk_R RR_B is tx q (T.setFrames (.invoking m args :: below)) := vk_R.warm hW0 hq
  have hat : ∀ w ∈ Bundle.ownAtoms RR_B ii X ["java/lang/RuntimeException", "java/lang/Exception"], w.before args (T.setFrames (.invoking m args :: below)) = true := by
    rcases hX with ⟨rfl, -, rfl⟩ | ⟨rfl, -, rfl⟩
    · exact qq_own_I hts' hE' hT'
    · exact qq_own_A hts' hE' hT'
  have hfit : Bundle.fit X = true := by
    rcases hX with ⟨rfl, -, -⟩ | ⟨rfl, -, -⟩ <;> decide +kernel
  have K : W p l e { R with cells := R.cells - cells, slots := R.slots - slots } (T.setFrames (.invoking m args :: below)) m args below meth c H [] 0 0 Q (F0 m pc ls []) := by
    refine W.newc hx hb hown' (hts' _ hcl) (hts' _ hins) (hts' _ hini) rfl d0 (by show 0 + 1 ≤ R.cells - cells; omega) (by show 0 + 6 ≤ R.slots - slots; omega) (fun cC kC h1 h2 h3 h4 => ?_)
    refine W.eq (g2 := F0 m (pc + 3) ls [.ref H.size]) rfl ?_
    refine lv_dup hx hb d1 rfl ?_
    refine va_ldcS hx hb hown' htx' d2 ?_
    intro T2 hT2 X2
    obtain ⟨U, st, hrun, hend, hWU, hsame, ce, hce, hO⟩ := X2.ctorThrowS hx (hno e X2.admits) hown' hfit (names := ["java/lang/RuntimeException", "java/lang/Exception"]) (by decide +kernel) hat (fun x hx => absurd hx List.not_mem_nil) h1 h2 (a := H.size) (by rw [hT2]; simp [freshCell]) (by rw [hsH]; exact Nat.le_refl _) (msg := .ref q) rfl
      (g := F0 m (pc + 3 + 1 + 2) ls [.ref q, .ref H.size, .ref H.size]) rfl (hsz.trans hml.symm) rfl rfl (rest := []) rfl (by rw [hb]; exact d3) (by rw [hb]; exact d4) (fun x hx => by
        have h9 : c.exceptionTable.toList = [] := by simpa [Array.isEmpty] using hex
        rw [h9] at hx
        exact absurd hx List.not_mem_nil) (by show 2 + 3 < R.frames; omega) (by show 2 * 0 + 1 + (13 * (2 + 1) + 42) ≤ R.locals; omega) hlocks
    have hold : ∀ a : Nat, a < H.size → U.heap[a]? = H[a]? := fun a ha => by
      have h9 := qq_same0 hsame (a := a) (by rw [hsH]; exact ha)
      rw [hsH] at h9
      exact h9
    have hWs : s.WarmedH U.vm := State.WarmedH.trans X0.warmed hWU
    refine ⟨U, st, ?_⟩
    rw [hQ]
    refine ⟨.threw H.size, hrun, hend, ⟨⟨Or.inr ⟨H.size, ce, rfl, hce, hO.vm, ?_⟩, fun k q9 hk => (hP k q9 hk).kept (hold _ (hP k q9 hk).lt), va_K.moved hWs.alike hK, hD⟩, ?_, ?_⟩, locs, hWs, ?_, hS.2.2⟩
    · have hc9 : U.vm.findClass X = some ce.cls := by rw [hWU.alike.findClass]; exact hO.cls
      rcases hX with ⟨rfl, h9, -⟩ | ⟨rfl, h9, -⟩
      · exact Or.inl ⟨h9, hc9⟩
      · exact Or.inr ⟨h9, hc9⟩
    · have h9 := hsame.2.1
      exact Nat.le_trans hS.1 (by rw [hsH] at h9; exact h9)
    · intro a h1 h2
      rw [hold a (Nat.lt_of_lt_of_le h1 hS.1)]
      exact hS.2.1 a h1 h2
    · have h9 : T.sameButNew ({ U with vm := T.vm } : State) [] (0 + 1) (0 + 6) := qq_sameF hsame
      have h10 := X0.same.trans (h9.setVm s.vm)
      exact h10.weaken (fun y hy _ => by simpa using hy) (by omega) (by omega)
  exact K T hTH X1
end QT
