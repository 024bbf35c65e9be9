/-! the words that every method of this claim is walked under: the good ones of the tables; nest words and static tables go along in the contracts' start -/
def ww_all : List Cond := lw_tbl.filter goodWord
abbrev ww_of (y : MethodName) (b : ByteArray) (n : Nat) (r : Option FieldType) : List Cond := .code y b n r :: ww_all
theorem ww_in {y : MethodName} {b : ByteArray} {n : Nat} {r : Option FieldType} (h : Cond.code y b n r ∈ ww_all) : GoodIn ww_all (ww_of y b n r) := by
  intro w hw
  rcases List.mem_cons.mp hw with rfl | hw
  · exact ⟨h, good_of_word (List.mem_filter.mp h).2⟩
  · exact ⟨hw, good_of_word (List.mem_filter.mp hw).2⟩
theorem ww_m {w : Cond} (h : w ∈ tables_1) (hg : goodWord w = true) : w ∈ ww_all := List.mem_filter.mpr ⟨List.mem_append_right _ h, hg⟩
theorem ww_s {w : Cond} (h : w ∈ k2_sels lw_privs) (hg : goodWord w = true) : w ∈ ww_all := List.mem_filter.mpr ⟨List.mem_append_left _ h, hg⟩
def qq_nw : Cond → Bool
  | .fieldLinkNest .. => true
  | .methodLinkNest .. => true
  | _ => false
theorem qq_nw_warm {w : Cond} (hw : qq_nw w = true) {s U : State} (hW : s.WarmedH U.vm) (h : va_Nw w s) : va_Nw w U := by
  cases w <;> first | exact va_Nw.warmF hW h | exact va_Nw.warmM hW h | (simp [qq_nw] at hw; done)
theorem qq_nw_same {w : Cond} (hw : qq_nw w = true) {u U : State} (hvm : u.vm = U.vm) (h : va_Nw w u) : va_Nw w U := by
  cases w <;> first | exact va_Nw.same rfl hvm h | (simp [qq_nw] at hw; done)
def qq_nest : List Cond := tables_1.filter qq_nw
theorem ww_n {w : Cond} (h : w ∈ tables_1) (hg : qq_nw w = true) : w ∈ qq_nest := List.mem_filter.mpr ⟨h, hg⟩
def xx_I : String := "java/lang/IllegalStateException"
def xx_A : String := "java/lang/IllegalArgumentException"
def qq_ca (C : String) (U : State) : Prop := ∃ c : ClassId, U.vm.findClass C = some c ∧ U.vm.assignable c c = true
theorem qq_ca_moved {C : String} {u U : State} (hvm : u.vm.Alike U.vm) (h : qq_ca C u) : qq_ca C U := by
  obtain ⟨c, h1, h2⟩ := h
  exact ⟨c, by rw [hvm.findClass]; exact h1, by rw [hvm.assignable]; exact h2⟩
def qq_de (U : State) : Prop := va_Nw (.declares (Bundle.initS "java/lang/RuntimeException")) U ∧ va_Nw (.declares (Bundle.initS "java/lang/Exception")) U ∧ va_Nw (.declares (Bundle.initS "java/lang/Throwable")) U
def qq_tx (U : State) : Prop := (∃ q : Nat, vk_R "RuledBoard" 169 "the board is in play" q U) ∧ (∃ q : Nat, vk_R "RuledBoard" 67 "no such square or piece" q U) ∧ (∃ q : Nat, vk_R "RuledBoard" 78 "no game can begin so" q U) ∧ (∃ q : Nat, vk_R "RuledBoard" 171 "the board is being set" q U) ∧ (∃ q : Nat, vk_R "RuledBoard" 93 "no more moves can be made" q U) ∧ (∃ q : Nat, vk_R "RuledBoard" 100 "no such move" q U) ∧ (∃ q : Nat, vk_R "RuledBoard" 117 "no move to take back" q U) ∧ (∃ q : Nat, vk_R "RuledBoard" 147 "no such side or square" q U) ∧ (∃ q : Nat, vk_R "RuledBoard" 153 "most is not 0 to 2" q U)
theorem qq_tx_warm {s U : State} (hW : s.WarmedH U.vm) (h : qq_tx s) : qq_tx U := by
  obtain ⟨⟨q0, s0⟩, ⟨q1, s1⟩, ⟨q2, s2⟩, ⟨q3, s3⟩, ⟨q4, s4⟩, ⟨q5, s5⟩, ⟨q6, s6⟩, ⟨q7, s7⟩, ⟨q8, s8⟩⟩ := h
  exact ⟨⟨q0, vk_R.warm hW s0⟩, ⟨q1, vk_R.warm hW s1⟩, ⟨q2, vk_R.warm hW s2⟩, ⟨q3, vk_R.warm hW s3⟩, ⟨q4, vk_R.warm hW s4⟩, ⟨q5, vk_R.warm hW s5⟩, ⟨q6, vk_R.warm hW s6⟩, ⟨q7, vk_R.warm hW s7⟩, ⟨q8, vk_R.warm hW s8⟩⟩
theorem qq_tx_same {u U : State} (hvm : u.vm = U.vm) (h : qq_tx u) : qq_tx U := by
  obtain ⟨⟨q0, s0⟩, ⟨q1, s1⟩, ⟨q2, s2⟩, ⟨q3, s3⟩, ⟨q4, s4⟩, ⟨q5, s5⟩, ⟨q6, s6⟩, ⟨q7, s7⟩, ⟨q8, s8⟩⟩ := h
  exact ⟨⟨q0, vk_R.same hvm.symm s0⟩, ⟨q1, vk_R.same hvm.symm s1⟩, ⟨q2, vk_R.same hvm.symm s2⟩, ⟨q3, vk_R.same hvm.symm s3⟩, ⟨q4, vk_R.same hvm.symm s4⟩, ⟨q5, vk_R.same hvm.symm s5⟩, ⟨q6, vk_R.same hvm.symm s6⟩, ⟨q7, vk_R.same hvm.symm s7⟩, ⟨q8, vk_R.same hvm.symm s8⟩⟩
def qq_E (U : State) : Prop := qq_de U ∧ qq_ca xx_I U ∧ qq_ca xx_A U ∧ va_Nc xx_A xx_I U ∧ qq_tx U
theorem qq_E_warm {s U : State} (hW : s.WarmedH U.vm) (h : qq_E s) : qq_E U := by
  obtain ⟨⟨a, b, c⟩, d, e, f, g⟩ := h
  exact ⟨⟨va_Nw.warmD hW a, va_Nw.warmD hW b, va_Nw.warmD hW c⟩, qq_ca_moved hW.alike d, qq_ca_moved hW.alike e, va_Nc.moved hW.alike f, qq_tx_warm hW g⟩
theorem qq_E_same {u U : State} (hvm : u.vm = U.vm) (h : qq_E u) : qq_E U := by
  have hal : u.vm.Alike U.vm := by rw [hvm]; exact Vm.Alike.refl U.vm
  obtain ⟨⟨a, b, c⟩, d, e, f, g⟩ := h
  exact ⟨⟨va_Nw.same rfl hvm a, va_Nw.same rfl hvm b, va_Nw.same rfl hvm c⟩, qq_ca_moved hal d, qq_ca_moved hal e, va_Nc.moved hal f, qq_tx_same hvm g⟩
def qq_N (U : State) : Prop := (∀ w ∈ qq_nest, va_Nw w U) ∧ va_AO RR_W U ∧ qq_E U
theorem qq_N_warm {s U : State} (hW : s.WarmedH U.vm) (h : qq_N s) : qq_N U := ⟨fun w hw => qq_nw_warm (List.mem_filter.mp hw).2 hW (h.1 w hw), va_AO.moved hW.alike h.2.1, qq_E_warm hW h.2.2⟩
theorem qq_N_same {u U : State} (hvm : u.vm = U.vm) (h : qq_N u) : qq_N U := ⟨fun w hw => qq_nw_same (List.mem_filter.mp hw).2 hvm (h.1 w hw), va_AO.moved (by rw [hvm]; exact Vm.Alike.refl U.vm) h.2.1, qq_E_same hvm h.2.2⟩
/-! the static tables -/
def tb_HOME_ROW : Nat → Int32 := fun j => ([4, 2, 3, 5, 6, 3, 2, 4] : List Int32).getD j 0
def tb_WAY_FILES : Nat → Int32 := fun j => ([1, 0, -1, 0, 1, -1, -1, 1] : List Int32).getD j 0
def tb_WAY_RANKS : Nat → Int32 := fun j => ([0, 1, 0, -1, 1, 1, -1, -1] : List Int32).getD j 0
def tb_WAY_STEPS : Nat → Int32 := fun j => ([1, 8, -1, -8, 9, 7, -9, -7] : List Int32).getD j 0
def tb_JUMP_FILES : Nat → Int32 := fun j => ([1, 2, 2, 1, -1, -2, -2, -1] : List Int32).getD j 0
def tb_JUMP_RANKS : Nat → Int32 := fun j => ([2, 1, -1, -2, -2, -1, 1, 2] : List Int32).getD j 0
def qq_t1 (n : String) (f : Nat → Int32) (A : Nat → Prop) (U : State) (H : Heap) : Prop := ∃ t : Nat, va_Z RR_P n "[I" (.ref t) A U H ∧ va_T .int t 8 (fun j => .int (f j)) A U H
theorem qq_t1_moved {n : String} {f : Nat → Int32} {A : Nat → Prop} {u U : State} {H : Heap} (hvm : u.vm.Alike U.vm) (h : qq_t1 n f A u H) : qq_t1 n f A U H := by
  obtain ⟨t, a, b⟩ := h
  exact ⟨t, va_Z.moved hvm a, va_T.moved hvm b⟩
theorem qq_t1_kept {n : String} {f : Nat → Int32} {A : Nat → Prop} {U : State} {H H1 : Heap} (h : qq_t1 n f A U H) (hq : ∀ a : Nat, a < H.size → ¬ A a → H1[a]? = H[a]?) : qq_t1 n f A U H1 := by
  obtain ⟨t, a, b⟩ := h
  exact ⟨t, va_Z.kept a hq, va_T.kept b hq⟩
theorem qq_t1_narrow {n : String} {f : Nat → Int32} {A B : Nat → Prop} {U : State} {H : Heap} (h : qq_t1 n f A U H) (hAB : ∀ q, B q → A q) : qq_t1 n f B U H := by
  obtain ⟨t, a, b⟩ := h
  exact ⟨t, va_Z.narrow a hAB, va_T.narrow b hAB⟩
def qq_x1 (n d : String) (A : Nat → Prop) (U : State) (H : Heap) : Prop := ∃ (c i a : Nat) (k : Class) (f : Field) (cell : Cell) (v : Value), U.vm.findClass Bundle.tN = some c ∧ U.fieldFound? Bundle.tN n d = some (c, k, i, f) ∧ f.isStatic = true ∧ k.statics = some a ∧ H[a]? = some cell ∧ cell.vm.isStatics = true ∧ cell.cls = c ∧ f.slot < cell.slots.size ∧ k.staticTypes[f.slot]? = some f.type ∧ cell.slots[f.slot]? = some v ∧ v.isRef = true ∧ ¬ A a
theorem qq_x1_moved {n d : String} {A : Nat → Prop} {u U : State} {H : Heap} (hvm : u.vm.Alike U.vm) (h : qq_x1 n d A u H) : qq_x1 n d A U H := by
  obtain ⟨c, i, a, k, f, cell, v, h1, h2, h3, h4, h5, h6, h7, h8, h9, h10⟩ := h
  obtain ⟨k', hi', he⟩ := State.fieldFound?_setVm hvm h2
  exact ⟨c, i, a, k', f, cell, v, by rw [hvm.findClass]; exact h1, hi', h3, by rw [he]; exact h4, h5, h6, h7, h8, by rw [he]; exact h9, h10⟩
theorem qq_x1_kept {n d : String} {A : Nat → Prop} {U : State} {H H1 : Heap} (h : qq_x1 n d A U H) (hq : ∀ a : Nat, a < H.size → ¬ A a → H1[a]? = H[a]?) : qq_x1 n d A U H1 := by
  obtain ⟨c, i, a, k, f, cell, v, h1, h2, h3, h4, h5, h6, h7, h8, h9, h10, h11, h12⟩ := h
  exact ⟨c, i, a, k, f, cell, v, h1, h2, h3, h4, by rw [hq a (Array.getElem?_eq_some_iff.mp h5).1 h12]; exact h5, h6, h7, h8, h9, h10, h11, h12⟩
theorem qq_x1_narrow {n d : String} {A B : Nat → Prop} {U : State} {H : Heap} (h : qq_x1 n d A U H) (hAB : ∀ q, B q → A q) : qq_x1 n d B U H := by
  obtain ⟨c, i, a, k, f, cell, v, h1, h2, h3, h4, h5, h6, h7, h8, h9, h10, h11, h12⟩ := h
  exact ⟨c, i, a, k, f, cell, v, h1, h2, h3, h4, h5, h6, h7, h8, h9, h10, h11, fun z => h12 (hAB a z)⟩
def qq_T (A : Nat → Prop) (U : State) (H : Heap) : Prop := (qq_t1 "HOME_ROW" tb_HOME_ROW A U H ∧ qq_t1 "WAY_FILES" tb_WAY_FILES A U H ∧ qq_t1 "WAY_RANKS" tb_WAY_RANKS A U H ∧ qq_t1 "WAY_STEPS" tb_WAY_STEPS A U H ∧ qq_t1 "JUMP_FILES" tb_JUMP_FILES A U H ∧ qq_t1 "JUMP_RANKS" tb_JUMP_RANKS A U H) ∧ qq_x1 "UNASSIGNED_STACK" Bundle.steD A U H ∧ qq_x1 "SUPPRESSED_SENTINEL" Bundle.listD A U H
theorem qq_T_moved {A : Nat → Prop} {u U : State} {H : Heap} (hvm : u.vm.Alike U.vm) (h : qq_T A u H) : qq_T A U H := by
  obtain ⟨⟨a, b, c, d, e, f⟩, x, y⟩ := h
  exact ⟨⟨qq_t1_moved hvm a, qq_t1_moved hvm b, qq_t1_moved hvm c, qq_t1_moved hvm d, qq_t1_moved hvm e, qq_t1_moved hvm f⟩, qq_x1_moved hvm x, qq_x1_moved hvm y⟩
theorem qq_T_kept {A : Nat → Prop} {U : State} {H H1 : Heap} (h : qq_T A U H) (hq : ∀ a : Nat, a < H.size → ¬ A a → H1[a]? = H[a]?) : qq_T A U H1 := by
  obtain ⟨⟨a, b, c, d, e, f⟩, x, y⟩ := h
  exact ⟨⟨qq_t1_kept a hq, qq_t1_kept b hq, qq_t1_kept c hq, qq_t1_kept d hq, qq_t1_kept e hq, qq_t1_kept f hq⟩, qq_x1_kept x hq, qq_x1_kept y hq⟩
theorem qq_T_narrow {A B : Nat → Prop} {U : State} {H : Heap} (h : qq_T A U H) (hAB : ∀ q, B q → A q) : qq_T B U H := by
  obtain ⟨⟨a, b, c, d, e, f⟩, x, y⟩ := h
  exact ⟨⟨qq_t1_narrow a hAB, qq_t1_narrow b hAB, qq_t1_narrow c hAB, qq_t1_narrow d hAB, qq_t1_narrow e hAB, qq_t1_narrow f hAB⟩, qq_x1_narrow x hAB, qq_x1_narrow y hAB⟩
theorem qq_T0 {A : Nat → Prop} {U : State} {H : Heap} (h : qq_T A U H) : ∃ t : Nat, va_Z RR_P "HOME_ROW" "[I" (.ref t) A U H ∧ va_T .int t 8 (fun j => .int (tb_HOME_ROW j)) A U H := h.1.1
theorem qq_T1 {A : Nat → Prop} {U : State} {H : Heap} (h : qq_T A U H) : ∃ t : Nat, va_Z RR_P "WAY_FILES" "[I" (.ref t) A U H ∧ va_T .int t 8 (fun j => .int (tb_WAY_FILES j)) A U H := h.1.2.1
theorem qq_T2 {A : Nat → Prop} {U : State} {H : Heap} (h : qq_T A U H) : ∃ t : Nat, va_Z RR_P "WAY_RANKS" "[I" (.ref t) A U H ∧ va_T .int t 8 (fun j => .int (tb_WAY_RANKS j)) A U H := h.1.2.2.1
theorem qq_T3 {A : Nat → Prop} {U : State} {H : Heap} (h : qq_T A U H) : ∃ t : Nat, va_Z RR_P "WAY_STEPS" "[I" (.ref t) A U H ∧ va_T .int t 8 (fun j => .int (tb_WAY_STEPS j)) A U H := h.1.2.2.2.1
theorem qq_T4 {A : Nat → Prop} {U : State} {H : Heap} (h : qq_T A U H) : ∃ t : Nat, va_Z RR_P "JUMP_FILES" "[I" (.ref t) A U H ∧ va_T .int t 8 (fun j => .int (tb_JUMP_FILES j)) A U H := h.1.2.2.2.2.1
theorem qq_T5 {A : Nat → Prop} {U : State} {H : Heap} (h : qq_T A U H) : ∃ t : Nat, va_Z RR_P "JUMP_RANKS" "[I" (.ref t) A U H ∧ va_T .int t 8 (fun j => .int (tb_JUMP_RANKS j)) A U H := h.1.2.2.2.2.2
/-! pure pieces of the functions -/
def qq_FU : Nat := 1000
def qq_rows (a b c d : Nat) : Nat → Option Nat := fun j => [a, b, c, d][j]?
def qq_let {α β : Type} (x : α) (k : α → Option β) : Option β := k x
def qq_ck {β : Type} (b : Bool) (k : Option β) : Option β := if b = true then k else none
def qq_in (i : Int32) (n : Nat) : Bool := decide (0 ≤ i) && decide (i.toNatClampNeg < n)
def qq_b (v : Int32) : Bool := decide (v = 0) || decide (v = 1)
theorem qq_lt {α β : Type} {x y : α} {k : α → Option β} {r : Option β} (e : y = x) (h : qq_let x k = r) : k y = r := by subst e; exact h
theorem qq_ckE {β : Type} {b : Bool} {k : Option β} {r : β} (h : qq_ck b k = some r) : b = true ∧ k = some r := by
  cases b with
  | false => simp [qq_ck] at h
  | true => exact ⟨rfl, by simpa [qq_ck] using h⟩
theorem qq_t {β : Type} {c : Prop} [Decidable c] {a b r : Option β} (hc : c) (h : (if c then a else b) = r) : a = r := by rw [if_pos hc] at h; exact h
theorem qq_f {β : Type} {c : Prop} [Decidable c] {a b r : Option β} (hc : ¬ c) (h : (if c then a else b) = r) : b = r := by rw [if_neg hc] at h; exact h
theorem qq_bd {α β : Type} {x : Option α} {k : α → Option β} {r : β} (h : x.bind k = some r) : ∃ a, x = some a ∧ k a = some r := by
  cases x with
  | none => cases h
  | some a => exact ⟨a, rfl, h⟩
theorem qq_inE {i : Int32} {n : Nat} (h : qq_in i n = true) : vp_in i n := by
  simp only [qq_in, Bool.and_eq_true, decide_eq_true_eq] at h
  intro q
  rcases q with q | q
  · have h1 := Int32.le_iff_toInt_le.mp h.1
    have h2 := Int32.lt_iff_toInt_lt.mp q
    omega
  · omega
theorem qq_bE {v : Int32} (h : qq_b v = true) : narrow .boolean (.int v) = .int v := by
  simp only [qq_b, Bool.or_eq_true, decide_eq_true_eq] at h
  rcases h with rfl | rfl <;> rfl
/-! the form of a contract: from this world, this answer and that world -/
def qq_ty (cI cL cR : ClassId) : List (ClassId × FieldType) := [(cI, .int), (cL, .long), (cR, .object RR_W)]
def qq_pre (D : va_G) (tys : List (ClassId × FieldType)) (av : List Value) (ws : va_W) (sz : Nat) : Array Value → State → Prop :=
  va_Pc av (fun U => U.heap.size = sz ∧ va_P D classes ws U.heap ∧ va_K D classes tys U ∧ va_D (fun _ => True) ws ∧ qq_T (va_A ws sz) U U.heap ∧ qq_N U)
def qq_ret (D : va_G) (tys : List (ClassId × FieldType)) (v : Option Value) (w1 : va_W) (A : Nat → Prop) : Array Value → State → Outcome → State → Prop :=
  fun _ st oc t => (oc = .returned v ∧ va_P D classes w1 t.heap ∧ va_K D classes tys t ∧ va_D A w1) ∧ va_F A st t
def qq_det (l : Launch) (y : MethodName) (w : List Cond) (rm : Room) (D : va_G) (tys : List (ClassId × FieldType)) (av : List Value) (wc : va_W) (v : Option Value) (w1 : va_W) : Prop :=
  ∀ sz : Nat, Met l y w rm (qq_pre D tys av wc sz) (qq_ret D tys v w1 (va_A wc sz)) 0 0 (va_A wc sz)
theorem qq_blind {D : va_G} {tys : List (ClassId × FieldType)} {av : List Value} {ws : va_W} {sz : Nat} : FrameBlind (qq_pre D tys av ws sz) := by
  intro a U g mk q
  obtain ⟨q0, q1, qP, qK, qD, qT, qN⟩ := q
  exact ⟨q0, q1, qP, va_K.moved (u := U) (U := U.calling g mk a) (Vm.Alike.refl U.vm) qK, qD, qq_T_moved (u := U) (U := U.calling g mk a) (Vm.Alike.refl U.vm) qT, qq_N_same (u := U) (U := U.calling g mk a) rfl qN⟩
theorem qq_fm {ws w : va_W} {is : List Nat} (h : is.map (fun i => ws[i]?) = w.map some) : is.filterMap (fun i => ws[i]?) = w := by
  have h1 := congrArg (List.filterMap id) h
  rw [List.filterMap_map, List.filterMap_map] at h1
  simpa using h1
theorem qq_00 {R : Room} : 0 ≤ R.cells ∧ 0 ≤ R.slots := ⟨Nat.zero_le _, Nat.zero_le _⟩
section QQ
variable {p : Program} {l : Launch} {e : Env} {R : Room} {s : State} {m : MethodId} {args : Array Value} {below : List Frame} {meth : Method} {c : Code} {H : Heap} {locs : List Loc} {Q : State → Prop}
variable {cells slots : Nat} {cc : ByteArray} {pc : Nat} {ls : Array Slot} {rest st0 : List Value} {D : va_G} {tys : List (ClassId × FieldType)} {A : Nat → Prop} {ws wc wr w1 wf : va_W} {v : Option Value}
theorem qq_pre_ok {av : List Value} (hP : va_P D classes ws H) (hD : va_D A ws) (hK : va_K D classes tys s) (hS : va_S A s.heap H locs) (hA : ∀ q : Nat, s.heap.size ≤ q → A q) (hT : qq_T A s s.heap) (hN : qq_N s) (isC : List Nat) (hC : isC.map (fun i => ws[i]?) = wc.map some) (hn : va_nd isC = true) :
    ∀ U : State, U.heap = H → s.WarmedH U.vm → qq_pre D tys av wc H.size av.toArray U := by
  intro U hU hW
  refine ⟨rfl, by rw [hU], by rw [hU]; exact hP.sub isC (qq_fm hC), va_K.moved hW.alike hK, (hD.sub isC hn hC).weaken (fun _ _ _ _ => trivial), ?_, qq_N_warm hW hN⟩
  rw [hU]
  exact qq_T_narrow (qq_T_moved hW.alike (qq_T_kept hT (fun a h1 h2 => hS.2.1 a h1 h2))) (va_free hD hS hA isC hC)
theorem qq_goes {a : Array Value} (hr : va_Run p l e R s m args below meth c H locs cells slots 0 0 (F0 m pc ls st0) rest (qq_ret D tys v w1 (va_A wc H.size) a) (va_A wc H.size)) (hP : va_P D classes ws H) (hD : va_D A ws) (hS : va_S A s.heap H locs) (hA : ∀ q : Nat, s.heap.size ≤ q → A q)
    (isC isR isF : List Nat) (hC : isC.map (fun i => ws[i]?) = wc.map some) (hR : isR.map (fun i => ws[i]?) = wr.map some) (hF : isF.map (fun i => (wr ++ w1)[i]?) = wf.map some) (hn : (va_nd isC && (va_nd isR && (va_nd isF && isR.all (fun i => !isC.contains i)))) = true)
    (kk : ∀ (H1 : Heap) (locs1 : List Loc), va_P D classes wf H1 → va_D A wf → va_S A s.heap H1 locs1 → W p l e R s m args below meth c H1 locs1 cells slots Q (F0 m (pc + 3) ls (v.toList ++ rest))) : W p l e R s m args below meth c H locs cells slots Q (F0 m pc ls st0) := by
  simp only [Bool.and_eq_true] at hn
  obtain ⟨hn1, hn2, hn3, hn4⟩ := hn
  intro T hT X
  obtain ⟨v', st₀, t, T', L, h0, X', hL, e1, e2, ⟨⟨hv, hP1, hK1, hD1⟩, hz, hk⟩, st⟩ := hr T hT X
  cases hv
  rw [h0] at hz hk
  have hF0 := va_free (wc := wc) hD hS hA isC hC
  have hk' : ∀ q : Nat, q < H.size → ¬ va_A wc H.size q → T'.heap[q]? = H[q]? := fun q h1 h2 => by rw [e1]; exact hk q h1 h2
  have hP1' : va_P D classes w1 T'.heap := by rw [e1]; exact hP1
  obtain ⟨hPj, hDj⟩ := va_join (wr := wr) (w1 := w1) hP hD isC isR hC hR hn2 (fun i hi h => by
    have h2 := List.all_eq_true.mp hn4 i hi
    simp [h] at h2) hk' hF0 hP1' hD1
  obtain ⟨t2, a1, b1⟩ := kk T'.heap (locs ++ L) (hPj.sub isF (qq_fm hF)) (hDj.sub isF hn3 hF)
    ⟨Nat.le_trans hS.1 (by rw [e1]; exact hz), fun q h1 h2 => by rw [hk' q (Nat.lt_of_lt_of_le h1 hS.1) (fun z => h2 (hF0 q z))]; exact hS.2.1 q h1 h2, fun q hq => by
      rcases List.mem_append.mp hq with h | h
      · exact hS.2.2 q h
      · exact hF0 _ (hL q h)⟩ T' rfl X'
  exact ⟨t2, st t2 a1, b1⟩
variable {nL maxL index n : Nat} {own C : String} {y : MethodName} {bytes : ByteArray} {ret : Option FieldType} {rm : Room} {b : Addr} {As : List Value} {host : String}
theorem qq_V (S : CallFix p m c cc nL s args ww_all own) (hM : qq_det l y (ww_of y bytes maxL ret) rm D tys (.ref b :: As) wc v w1)
    (hl : Cond.methodLink own index y ∈ ww_all) (hi : Cond.instanceMethod y ∈ ww_all) (hse : Cond.selects C y y ∈ ww_all) (hco : Cond.code y bytes maxL ret ∈ ww_all) (hin : Cond.initialized y.cls ∈ ww_all)
    (hd : y.cls ≠ "java/lang/invoke/MethodHandle" ∧ y.cls ≠ "java/lang/invoke/VarHandle" ∧ (parseMethodDescriptor y.desc).map (fun d => d.parameters.length) = some n) (hRm : rm.cells = 0 ∧ rm.slots = 0 ∧ rm.frames + 1 ≤ R.frames ∧ 8 + (maxL + 11) + rm.locals ≤ R.locals)
    (hcs : cells ≤ R.cells ∧ slots ≤ R.slots) (hP : va_P D classes ws H) (hD : va_D A ws) (hK : va_K D classes tys s) (hS : va_S A s.heap H locs) (hA : ∀ q : Nat, s.heap.size ≤ q → A q) (hT : qq_T A s s.heap) (hN : qq_N s)
    {q0 ci : Nat} {fs : List Value} (he : ws[q0]? = some (b, .inr (ci, fs))) (hc : (classes[ci]?).map (fun q => q.1) = some C)
    (isC isR isF : List Nat) (hC : isC.map (fun i => ws[i]?) = wc.map some) (hR : isR.map (fun i => ws[i]?) = wr.map some) (hF : isF.map (fun i => (wr ++ w1)[i]?) = wf.map some) (hn : (va_nd isC && (va_nd isR && (va_nd isF && isR.all (fun i => !isC.contains i)))) = true)
    (hlen : As.length = n) (hsize : ls.size = nL) (hst : st0 = As.reverse ++ .ref b :: rest) (hW : (rest.map fun v => v.category).sum ≤ 8) (hdg : decode cc pc = .ok (.invokevirtual index, 3))
    (kk : ∀ (H1 : Heap) (locs1 : List Loc), va_P D classes wf H1 → va_D A wf → va_S A s.heap H1 locs1 → W p l e R s m args below meth c H1 locs1 cells slots Q (F0 m (pc + 3) ls (v.toList ++ rest))) : W p l e R s m args below meth c H locs cells slots Q (F0 m pc ls st0) := by
  have hn1 : va_nd isC = true := by simp only [Bool.and_eq_true] at hn; exact hn.1
  have hts := S.2.2.2.2
  cases hq : classes[ci]? with
  | none => rw [hq] at hc; cases hc
  | some q =>
    rw [hq] at hc
    have hCq : q.1 = C := Option.some.inj hc
    refine qq_goes (wr := wr) (va_runV (g := F0 m pc ls st0) S (hM H.size) ⟨callB_of n hts (ww_in hco) rfl hRm.1 hRm.2.1 (hts _ hin) (hts _ hl) hd hRm.2.2, hts _ hi, hts _ hse⟩ ⟨qq_blind, ?_, qq_pre_ok hP hD hK hS hA hT hN isC hC hn1⟩ rfl hlen hsize hst (lv_room hW) hdg hcs) hP hD hS hA isC isR isF hC hR hF hn kk
    obtain ⟨cell, h1, h2, h3⟩ := va_recv hK hP hq he
    exact ⟨cell, h1, h2, by rw [← hCq]; exact h3⟩
theorem qq_VN (S : CallFix p m c cc nL s args ww_all own) (hM : qq_det l y (ww_of y bytes maxL ret) rm D tys (.ref b :: As) wc v w1)
    (hl : va_Nw (.methodLinkNest own index y host) s) (hi : Cond.instanceMethod y ∈ ww_all) (hse : Cond.selects C y y ∈ ww_all) (hco : Cond.code y bytes maxL ret ∈ ww_all) (hin : Cond.initialized y.cls ∈ ww_all)
    (hd : y.cls ≠ "java/lang/invoke/MethodHandle" ∧ y.cls ≠ "java/lang/invoke/VarHandle" ∧ (parseMethodDescriptor y.desc).map (fun d => d.parameters.length) = some n) (hRm : rm.cells = 0 ∧ rm.slots = 0 ∧ rm.frames + 1 ≤ R.frames ∧ 8 + (maxL + 11) + rm.locals ≤ R.locals)
    (hcs : cells ≤ R.cells ∧ slots ≤ R.slots) (hP : va_P D classes ws H) (hD : va_D A ws) (hK : va_K D classes tys s) (hS : va_S A s.heap H locs) (hA : ∀ q : Nat, s.heap.size ≤ q → A q) (hT : qq_T A s s.heap) (hN : qq_N s)
    {q0 ci : Nat} {fs : List Value} (he : ws[q0]? = some (b, .inr (ci, fs))) (hc : (classes[ci]?).map (fun q => q.1) = some C)
    (isC isR isF : List Nat) (hC : isC.map (fun i => ws[i]?) = wc.map some) (hR : isR.map (fun i => ws[i]?) = wr.map some) (hF : isF.map (fun i => (wr ++ w1)[i]?) = wf.map some) (hn : (va_nd isC && (va_nd isR && (va_nd isF && isR.all (fun i => !isC.contains i)))) = true)
    (hlen : As.length = n) (hsize : ls.size = nL) (hst : st0 = As.reverse ++ .ref b :: rest) (hW : (rest.map fun v => v.category).sum ≤ 8) (hdg : decode cc pc = .ok (.invokevirtual index, 3))
    (kk : ∀ (H1 : Heap) (locs1 : List Loc), va_P D classes wf H1 → va_D A wf → va_S A s.heap H1 locs1 → W p l e R s m args below meth c H1 locs1 cells slots Q (F0 m (pc + 3) ls (v.toList ++ rest))) : W p l e R s m args below meth c H locs cells slots Q (F0 m pc ls st0) := by
  have hn1 : va_nd isC = true := by simp only [Bool.and_eq_true] at hn; exact hn.1
  have hts := S.2.2.2.2
  cases hq : classes[ci]? with
  | none => rw [hq] at hc; cases hc
  | some q =>
    rw [hq] at hc
    have hCq : q.1 = C := Option.some.inj hc
    refine qq_goes (wr := wr) (va_runVN (g := F0 m pc ls st0) S (hM H.size) ⟨va_cnB n hts (ww_in hco) rfl hRm.1 hRm.2.1 hl (hts _ hin) hd hRm.2.2, hts _ hi, hts _ hse⟩ ⟨qq_blind, ?_, qq_pre_ok hP hD hK hS hA hT hN isC hC hn1⟩ rfl hlen hsize hst (lv_room hW) hdg hcs) hP hD hS hA isC isR isF hC hR hF hn kk
    obtain ⟨cell, h1, h2, h3⟩ := va_recv hK hP hq he
    exact ⟨cell, h1, h2, by rw [← hCq]; exact h3⟩
theorem qq_S (S : CallFix p m c cc nL s args ww_all own) (hM : qq_det l y (ww_of y bytes maxL ret) rm D tys As wc v w1)
    (hl : Cond.methodLink own index y ∈ ww_all) (hst9 : Cond.static y ∈ ww_all) (hco : Cond.code y bytes maxL ret ∈ ww_all) (hin : Cond.initialized y.cls ∈ ww_all)
    (hd : y.cls ≠ "java/lang/invoke/MethodHandle" ∧ y.cls ≠ "java/lang/invoke/VarHandle" ∧ (parseMethodDescriptor y.desc).map (fun d => d.parameters.length) = some n) (hRm : rm.cells = 0 ∧ rm.slots = 0 ∧ rm.frames + 1 ≤ R.frames ∧ 8 + (maxL + 11) + rm.locals ≤ R.locals)
    (hcs : cells ≤ R.cells ∧ slots ≤ R.slots) (hP : va_P D classes ws H) (hD : va_D A ws) (hK : va_K D classes tys s) (hS : va_S A s.heap H locs) (hA : ∀ q : Nat, s.heap.size ≤ q → A q) (hT : qq_T A s s.heap) (hN : qq_N s)
    (isC isR isF : List Nat) (hC : isC.map (fun i => ws[i]?) = wc.map some) (hR : isR.map (fun i => ws[i]?) = wr.map some) (hF : isF.map (fun i => (wr ++ w1)[i]?) = wf.map some) (hn : (va_nd isC && (va_nd isR && (va_nd isF && isR.all (fun i => !isC.contains i)))) = true)
    (hlen : As.length = n) (hsize : ls.size = nL) (hst : st0 = As.reverse ++ rest) (hW : (rest.map fun v => v.category).sum ≤ 8) (hdg : decode cc pc = .ok (.invokestatic index, 3))
    (kk : ∀ (H1 : Heap) (locs1 : List Loc), va_P D classes wf H1 → va_D A wf → va_S A s.heap H1 locs1 → W p l e R s m args below meth c H1 locs1 cells slots Q (F0 m (pc + 3) ls (v.toList ++ rest))) : W p l e R s m args below meth c H locs cells slots Q (F0 m pc ls st0) := by
  have hn1 : va_nd isC = true := by simp only [Bool.and_eq_true] at hn; exact hn.1
  have hts := S.2.2.2.2
  exact qq_goes (wr := wr) (va_runS (g := F0 m pc ls st0) S (hM H.size) ⟨callB_of n hts (ww_in hco) rfl hRm.1 hRm.2.1 (hts _ hin) (hts _ hl) hd hRm.2.2, hts _ hst9⟩ ⟨qq_blind, qq_pre_ok hP hD hK hS hA hT hN isC hC hn1⟩ rfl hlen hsize hst (lv_room hW) hdg hcs) hP hD hS hA isC isR isF hC hR hF hn kk
theorem qq_SN (S : CallFix p m c cc nL s args ww_all own) (hM : qq_det l y (ww_of y bytes maxL ret) rm D tys As wc v w1)
    (hl : va_Nw (.methodLinkNest own index y host) s) (hst9 : Cond.static y ∈ ww_all) (hco : Cond.code y bytes maxL ret ∈ ww_all) (hin : Cond.initialized y.cls ∈ ww_all)
    (hd : y.cls ≠ "java/lang/invoke/MethodHandle" ∧ y.cls ≠ "java/lang/invoke/VarHandle" ∧ (parseMethodDescriptor y.desc).map (fun d => d.parameters.length) = some n) (hRm : rm.cells = 0 ∧ rm.slots = 0 ∧ rm.frames + 1 ≤ R.frames ∧ 8 + (maxL + 11) + rm.locals ≤ R.locals)
    (hcs : cells ≤ R.cells ∧ slots ≤ R.slots) (hP : va_P D classes ws H) (hD : va_D A ws) (hK : va_K D classes tys s) (hS : va_S A s.heap H locs) (hA : ∀ q : Nat, s.heap.size ≤ q → A q) (hT : qq_T A s s.heap) (hN : qq_N s)
    (isC isR isF : List Nat) (hC : isC.map (fun i => ws[i]?) = wc.map some) (hR : isR.map (fun i => ws[i]?) = wr.map some) (hF : isF.map (fun i => (wr ++ w1)[i]?) = wf.map some) (hn : (va_nd isC && (va_nd isR && (va_nd isF && isR.all (fun i => !isC.contains i)))) = true)
    (hlen : As.length = n) (hsize : ls.size = nL) (hst : st0 = As.reverse ++ rest) (hW : (rest.map fun v => v.category).sum ≤ 8) (hdg : decode cc pc = .ok (.invokestatic index, 3))
    (kk : ∀ (H1 : Heap) (locs1 : List Loc), va_P D classes wf H1 → va_D A wf → va_S A s.heap H1 locs1 → W p l e R s m args below meth c H1 locs1 cells slots Q (F0 m (pc + 3) ls (v.toList ++ rest))) : W p l e R s m args below meth c H locs cells slots Q (F0 m pc ls st0) := by
  have hn1 : va_nd isC = true := by simp only [Bool.and_eq_true] at hn; exact hn.1
  have hts := S.2.2.2.2
  exact qq_goes (wr := wr) (va_runSN (g := F0 m pc ls st0) S (hM H.size) ⟨va_cnB n hts (ww_in hco) rfl hRm.1 hRm.2.1 hl (hts _ hin) hd hRm.2.2, hts _ hst9, trivial⟩ ⟨qq_blind, qq_pre_ok hP hD hK hS hA hT hN isC hC hn1⟩ rfl hlen hsize hst (lv_room hW) hdg hcs) hP hD hS hA isC isR isF hC hR hF hn kk
theorem qq_iret {x : Int32} (hx : p.tables.exec = Jvm.exec) (hb : c.code = cc) (hr : meth.sig.returnType = some .int) (hlocks : meth.locks = false) (hQ : Q = MQ below (qq_ret D tys (some (.int x)) w1 A) args s 0 0 A) (hP : va_P D classes w1 H) (hD : va_D A w1) (hK : va_K D classes tys s) (hS : va_S A s.heap H locs) (hdg : decode cc pc = .ok (.ireturn, 1)) : W p l e R s m args below meth c H locs 0 0 Q (F0 m pc ls [.int x]) := by
  rw [hQ]
  exact W.iret hx hb hr (fun t ht hW => ⟨⟨rfl, by rw [ht]; exact hP, va_K.moved hW.alike hK, hD⟩, hS.F ht⟩) hS.2.2 hdg hlocks
theorem qq_zret {x : Int32} (hx : p.tables.exec = Jvm.exec) (hb : c.code = cc) (hr : meth.sig.returnType = some .boolean) (hz : narrow .boolean (.int x) = .int x) (hlocks : meth.locks = false) (hQ : Q = MQ below (qq_ret D tys (some (.int x)) w1 A) args s 0 0 A) (hP : va_P D classes w1 H) (hD : va_D A w1) (hK : va_K D classes tys s) (hS : va_S A s.heap H locs) (hdg : decode cc pc = .ok (.ireturn, 1)) : W p l e R s m args below meth c H locs 0 0 Q (F0 m pc ls [.int x]) := by
  rw [hQ]
  exact W.zret hx hb hr hz (fun t ht hW => ⟨⟨rfl, by rw [ht]; exact hP, va_K.moved hW.alike hK, hD⟩, hS.F ht⟩) hS.2.2 hdg hlocks
theorem qq_lret {x : Int64} (hx : p.tables.exec = Jvm.exec) (hb : c.code = cc) (hr : meth.sig.returnType = some .long) (hlocks : meth.locks = false) (hQ : Q = MQ below (qq_ret D tys (some (.long x)) w1 A) args s 0 0 A) (hP : va_P D classes w1 H) (hD : va_D A w1) (hK : va_K D classes tys s) (hS : va_S A s.heap H locs) (hdg : decode cc pc = .ok (.lreturn, 1)) : W p l e R s m args below meth c H locs 0 0 Q (F0 m pc ls [.long x]) := by
  rw [hQ]
  exact W.lret hx hb hr (fun t ht hW => ⟨⟨rfl, by rw [ht]; exact hP, va_K.moved hW.alike hK, hD⟩, hS.F ht⟩) hS.2.2 hdg hlocks
theorem qq_vret (hx : p.tables.exec = Jvm.exec) (hb : c.code = cc) (hr : meth.sig.returnType = none) (hlocks : meth.locks = false) (hQ : Q = MQ below (qq_ret D tys none w1 A) args s 0 0 A) (hP : va_P D classes w1 H) (hD : va_D A w1) (hK : va_K D classes tys s) (hS : va_S A s.heap H locs) (hdg : decode cc pc = .ok (.return_, 1)) : W p l e R s m args below meth c H locs 0 0 Q (F0 m pc ls []) := by
  rw [hQ]
  exact W.vret hx hb hr (fun t ht hW => ⟨⟨rfl, by rw [ht]; exact hP, va_K.moved hW.alike hK, hD⟩, hS.F ht⟩) hS.2.2 hdg hlocks
end QQ
theorem qq_of {l : Launch} {y : MethodName} {cc : ByteArray} {maxL : Nat} {ret : Option FieldType} {rm : Room} {D : va_G} {tys : List (ClassId × FieldType)} {av : List Value} {wc : va_W} {v : Option Value} {w1 : va_W} {own : String} (hy : plainName y.cls = true) (hown : y.cls = own) (hlen : (lg_sl av).length ≤ maxL)
    (body : ∀ (p : Program) (e : Env) (s : State) (m : MethodId) (below : List Frame) (meth : Method) (c : Code) (A : Nat → Prop) (Q : State → Prop) (ls : Array Slot),
      p.tables.exec = Jvm.exec → c.code = cc → c.maxLocals = maxL → meth.sig.returnType = ret → meth.locks = false → s.vm.findClass own = some m.cls → (∀ w ∈ ww_all, w.before av.toArray s = true) → va_K D classes tys s → (∀ q : Nat, s.heap.size ≤ q → A q) → qq_T A s s.heap → qq_N s → va_P D classes wc s.heap → va_D A wc → va_S A s.heap s.heap [] → lv_has ls maxL (lv_args 0 av) → Q = MQ below (qq_ret D tys v w1 A) av.toArray s 0 0 A →
      W p l e rm s m av.toArray below meth c s.heap [] 0 0 Q (F0 m 0 ls [])) : qq_det l y (ww_of y cc maxL ret) rm D tys av wc v w1 := by
  intro sz
  refine Met.ofW (cc := cc) (maxL := maxL) (ret := ret) hy rfl ?_
  intro p e s m args below meth c s₁ B hml hv
  obtain ⟨rfl, hsz, hP, hK, hD0, hT, hN⟩ := hv
  have hts := atoms_spec (ws := ww_of y cc maxL ret) B.pre
  have how : s.vm.findClass own = some m.cls := hown ▸ findClass_of_methodNamed B.named
  subst hsz
  have hl := lv_entry av (n := maxL) hlen
  rw [lg_entry_eq]
  exact body p e s m below meth c _ _ _ B.exec B.bytes hml B.returns B.notSynchronized how (fun w hw => hts w (List.mem_cons_of_mem _ hw)) hK (fun q h => Or.inr h) hT hN hP hD0.self va_S.rf hl rfl
/-! constructors: the world that they leave names new addresses, by a function -/
def qq_retn (D : va_G) (tys : List (ClassId × FieldType)) (Wf : (Nat → Nat) → va_W) (A : Nat → Prop) : Array Value → State → Outcome → State → Prop :=
  fun _ st oc t => (∃ q : Nat → Nat, oc = .returned none ∧ va_P D classes (Wf q) t.heap ∧ va_K D classes tys t ∧ va_D A (Wf q)) ∧ va_F A st t
def qq_new (l : Launch) (y : MethodName) (w : List Cond) (rm : Room) (D : va_G) (tys : List (ClassId × FieldType)) (av : List Value) (wc : va_W) (mc ms : Nat) (Wf : (Nat → Nat) → va_W) : Prop :=
  ∀ sz : Nat, Met l y w rm (qq_pre D tys av wc sz) (qq_retn D tys Wf (va_A wc sz)) mc ms (va_A wc sz)
theorem qq_ofn {l : Launch} {y : MethodName} {cc : ByteArray} {maxL : Nat} {ret : Option FieldType} {rm : Room} {D : va_G} {tys : List (ClassId × FieldType)} {av : List Value} {wc : va_W} {mc ms : Nat} {Wf : (Nat → Nat) → va_W} {own : String} (hy : plainName y.cls = true) (hown : y.cls = own) (hlen : (lg_sl av).length ≤ maxL)
    (body : ∀ (p : Program) (e : Env) (s : State) (m : MethodId) (below : List Frame) (meth : Method) (c : Code) (A : Nat → Prop) (Q : State → Prop) (ls : Array Slot),
      p.tables.exec = Jvm.exec → c.code = cc → c.maxLocals = maxL → meth.sig.returnType = ret → meth.locks = false → s.vm.findClass own = some m.cls → (∀ w ∈ ww_all, w.before av.toArray s = true) → va_K D classes tys s → (∀ q : Nat, s.heap.size ≤ q → A q) → qq_T A s s.heap → qq_N s → va_P D classes wc s.heap → va_D A wc → va_S A s.heap s.heap [] → lv_has ls maxL (lv_args 0 av) → meth.name = y.name → Q = MQ below (qq_retn D tys Wf A) av.toArray s mc ms A →
      W p l e rm s m av.toArray below meth c s.heap [] 0 0 Q (F0 m 0 ls [])) : qq_new l y (ww_of y cc maxL ret) rm D tys av wc mc ms Wf := by
  intro sz
  refine Met.ofW (cc := cc) (maxL := maxL) (ret := ret) hy rfl ?_
  intro p e s m args below meth c s₁ B hml hv
  obtain ⟨rfl, hsz, hP, hK, hD0, hT, hN⟩ := hv
  have hts := atoms_spec (ws := ww_of y cc maxL ret) B.pre
  have how : s.vm.findClass own = some m.cls := hown ▸ findClass_of_methodNamed B.named
  subst hsz
  have hl := lv_entry av (n := maxL) hlen
  rw [lg_entry_eq]
  exact body p e s m below meth c _ _ _ B.exec B.bytes hml B.returns B.notSynchronized how (fun w hw => hts w (List.mem_cons_of_mem _ hw)) hK (fun q h => Or.inr h) hT hN hP hD0.self va_S.rf hl (name_of_methodNamed B.named B.method).1 rfl
section QN
variable {p : Program} {l : Launch} {e : Env} {R : Room} {s : State} {m : MethodId} {args : Array Value} {below : List Frame} {meth : Method} {c : Code} {H : Heap} {locs : List Loc} {Q : State → Prop}
variable {cells slots mc ms : Nat} {cc : ByteArray} {pc : Nat} {ls : Array Slot} {rest st0 : List Value} {D : va_G} {tys : List (ClassId × FieldType)} {A : Nat → Prop} {ws wc wr : va_W} {Wf wfF : (Nat → Nat) → va_W}
theorem qq_nret (q : Nat → Nat) (hx : p.tables.exec = Jvm.exec) (hb : c.code = cc) (hr : meth.sig.returnType = none) (hlocks : meth.locks = false) (hQ : Q = MQ below (qq_retn D tys Wf A) args s cells slots A) (hP : va_P D classes (Wf q) H) (hD : va_D A (Wf q)) (hK : va_K D classes tys s) (hS : va_S A s.heap H locs) (hdg : decode cc pc = .ok (.return_, 1)) : W p l e R s m args below meth c H locs cells slots Q (F0 m pc ls []) := by
  rw [hQ]
  exact W.vret hx hb hr (fun t ht hW => ⟨⟨q, rfl, by rw [ht]; exact hP, va_K.moved hW.alike hK, hD⟩, hS.F ht⟩) hS.2.2 hdg hlocks
theorem qq_ngoes {a : Array Value} (hr : va_Run p l e R s m args below meth c H locs cells slots mc ms (F0 m pc ls st0) rest (qq_retn D tys Wf (va_A wc H.size) a) (va_A wc H.size)) (hP : va_P D classes ws H) (hD : va_D A ws) (hS : va_S A s.heap H locs) (hA : ∀ q : Nat, s.heap.size ≤ q → A q)
    (isC isR isF : List Nat) (hC : isC.map (fun i => ws[i]?) = wc.map some) (hR : isR.map (fun i => ws[i]?) = wr.map some) (hF : ∀ q : Nat → Nat, isF.map (fun i => (wr ++ Wf q)[i]?) = (wfF q).map some) (hn : (va_nd isC && (va_nd isR && (va_nd isF && isR.all (fun i => !isC.contains i)))) = true)
    (kk : ∀ (q : Nat → Nat) (H1 : Heap) (locs1 : List Loc), va_P D classes (wfF q) H1 → va_D A (wfF q) → va_S A s.heap H1 locs1 → W p l e R s m args below meth c H1 locs1 (cells + mc) (slots + ms) Q (F0 m (pc + 3) ls rest)) : W p l e R s m args below meth c H locs cells slots Q (F0 m pc ls st0) := by
  simp only [Bool.and_eq_true] at hn
  obtain ⟨hn1, hn2, hn3, hn4⟩ := hn
  intro T hT X
  obtain ⟨v', st₀, t, T', L, h0, X', hL, e1, e2, ⟨⟨q, hv, hP1, hK1, hD1⟩, hz, hk⟩, st⟩ := hr T hT X
  cases hv
  rw [h0] at hz hk
  have hF0 := va_free (wc := wc) hD hS hA isC hC
  have hk' : ∀ q : Nat, q < H.size → ¬ va_A wc H.size q → T'.heap[q]? = H[q]? := fun q h1 h2 => by rw [e1]; exact hk q h1 h2
  have hP1' : va_P D classes (Wf q) T'.heap := by rw [e1]; exact hP1
  obtain ⟨hPj, hDj⟩ := va_join (wr := wr) (w1 := Wf q) hP hD isC isR hC hR hn2 (fun i hi h => by
    have h2 := List.all_eq_true.mp hn4 i hi
    simp [h] at h2) hk' hF0 hP1' hD1
  obtain ⟨t2, a1, b1⟩ := kk q T'.heap (locs ++ L) (hPj.sub isF (qq_fm (hF q))) (hDj.sub isF hn3 (hF q))
    ⟨Nat.le_trans hS.1 (by rw [e1]; exact hz), fun q h1 h2 => by rw [hk' q (Nat.lt_of_lt_of_le h1 hS.1) (fun z => h2 (hF0 q z))]; exact hS.2.1 q h1 h2, fun q hq => by
      rcases List.mem_append.mp hq with h | h
      · exact hS.2.2 q h
      · exact hF0 _ (hL q h)⟩ T' rfl X'
  exact ⟨t2, st t2 a1, b1⟩
variable {nL maxL index n : Nat} {own C : String} {y : MethodName} {bytes : ByteArray} {rm : Room} {b : Addr} {As : List Value} {host : String}
theorem qq_I (S : CallFix p m c cc nL s args ww_all own) (hM : qq_new l y (ww_of y bytes maxL none) rm D tys (.ref b :: As) wc mc ms Wf)
    (hl : Cond.methodLink own index y ∈ ww_all) (hi : Cond.instanceMethod y ∈ ww_all) (hco : Cond.code y bytes maxL none ∈ ww_all) (hin : Cond.initialized y.cls ∈ ww_all) (hy1 : y.name = "<init>")
    (hd : y.cls ≠ "java/lang/invoke/MethodHandle" ∧ y.cls ≠ "java/lang/invoke/VarHandle" ∧ (parseMethodDescriptor y.desc).map (fun d => d.parameters.length) = some n) (hRm : rm.cells = mc ∧ rm.slots = ms ∧ rm.frames + 1 ≤ R.frames ∧ 8 + (maxL + 11) + rm.locals ≤ R.locals)
    (hcs : cells + mc ≤ R.cells ∧ slots + ms ≤ R.slots) (hP : va_P D classes ws H) (hD : va_D A ws) (hK : va_K D classes tys s) (hS : va_S A s.heap H locs) (hA : ∀ q : Nat, s.heap.size ≤ q → A q) (hT : qq_T A s s.heap) (hN : qq_N s)
    (isC isR isF : List Nat) (hC : isC.map (fun i => ws[i]?) = wc.map some) (hR : isR.map (fun i => ws[i]?) = wr.map some) (hF : ∀ q : Nat → Nat, isF.map (fun i => (wr ++ Wf q)[i]?) = (wfF q).map some) (hn : (va_nd isC && (va_nd isR && (va_nd isF && isR.all (fun i => !isC.contains i)))) = true)
    (hlen : As.length = n) (hsize : ls.size = nL) (hst : st0 = As.reverse ++ .ref b :: rest) (hW : (rest.map fun v => v.category).sum ≤ 8) (hdg : decode cc pc = .ok (.invokespecial index, 3))
    (kk : ∀ (q : Nat → Nat) (H1 : Heap) (locs1 : List Loc), va_P D classes (wfF q) H1 → va_D A (wfF q) → va_S A s.heap H1 locs1 → W p l e R s m args below meth c H1 locs1 (cells + mc) (slots + ms) Q (F0 m (pc + 3) ls rest)) : W p l e R s m args below meth c H locs cells slots Q (F0 m pc ls st0) := by
  have hn1 : va_nd isC = true := by simp only [Bool.and_eq_true] at hn; exact hn.1
  have hts := S.2.2.2.2
  exact qq_ngoes (wr := wr) (va_runI (g := F0 m pc ls st0) S (hM H.size) ⟨callB_of n hts (ww_in hco) rfl hRm.1 hRm.2.1 (hts _ hin) (hts _ hl) hd hRm.2.2, hy1, hts _ hi⟩ ⟨qq_blind, qq_pre_ok hP hD hK hS hA hT hN isC hC hn1⟩ rfl hlen hsize hst (lv_room hW) hdg hcs) hP hD hS hA isC isR isF hC hR hF hn kk
theorem qq_IN (S : CallFix p m c cc nL s args ww_all own) (hM : qq_new l y (ww_of y bytes maxL none) rm D tys (.ref b :: As) wc mc ms Wf)
    (hl : va_Nw (.methodLinkNest own index y host) s) (hi : Cond.instanceMethod y ∈ ww_all) (hco : Cond.code y bytes maxL none ∈ ww_all) (hin : Cond.initialized y.cls ∈ ww_all) (hy1 : y.name = "<init>")
    (hd : y.cls ≠ "java/lang/invoke/MethodHandle" ∧ y.cls ≠ "java/lang/invoke/VarHandle" ∧ (parseMethodDescriptor y.desc).map (fun d => d.parameters.length) = some n) (hRm : rm.cells = mc ∧ rm.slots = ms ∧ rm.frames + 1 ≤ R.frames ∧ 8 + (maxL + 11) + rm.locals ≤ R.locals)
    (hcs : cells + mc ≤ R.cells ∧ slots + ms ≤ R.slots) (hP : va_P D classes ws H) (hD : va_D A ws) (hK : va_K D classes tys s) (hS : va_S A s.heap H locs) (hA : ∀ q : Nat, s.heap.size ≤ q → A q) (hT : qq_T A s s.heap) (hN : qq_N s)
    (isC isR isF : List Nat) (hC : isC.map (fun i => ws[i]?) = wc.map some) (hR : isR.map (fun i => ws[i]?) = wr.map some) (hF : ∀ q : Nat → Nat, isF.map (fun i => (wr ++ Wf q)[i]?) = (wfF q).map some) (hn : (va_nd isC && (va_nd isR && (va_nd isF && isR.all (fun i => !isC.contains i)))) = true)
    (hlen : As.length = n) (hsize : ls.size = nL) (hst : st0 = As.reverse ++ .ref b :: rest) (hW : (rest.map fun v => v.category).sum ≤ 8) (hdg : decode cc pc = .ok (.invokespecial index, 3))
    (kk : ∀ (q : Nat → Nat) (H1 : Heap) (locs1 : List Loc), va_P D classes (wfF q) H1 → va_D A (wfF q) → va_S A s.heap H1 locs1 → W p l e R s m args below meth c H1 locs1 (cells + mc) (slots + ms) Q (F0 m (pc + 3) ls rest)) : W p l e R s m args below meth c H locs cells slots Q (F0 m pc ls st0) := by
  have hn1 : va_nd isC = true := by simp only [Bool.and_eq_true] at hn; exact hn.1
  have hts := S.2.2.2.2
  exact qq_ngoes (wr := wr) (va_runIN (g := F0 m pc ls st0) S (hM H.size) ⟨va_cnB n hts (ww_in hco) rfl hRm.1 hRm.2.1 hl (hts _ hin) hd hRm.2.2, hy1, hts _ hi⟩ ⟨qq_blind, qq_pre_ok hP hD hK hS hA hT hN isC hC hn1⟩ rfl hlen hsize hst (lv_room hW) hdg hcs) hP hD hS hA isC isR isF hC hR hF hn kk
end QN
/-- all arrays of a kind have one number in the tables -/
theorem qq_cI {D : va_G} {cl : List vw_C} {cI cL cR cA : ClassId} {s : State} (h : va_K D cl (qq_ty cI cL cR ++ [(cA, .int)]) s) : cA = cI := by
  have h1 := (h.2 0 (cI, .int) rfl).2
  have h2 := (h.2 3 (cA, .int) rfl).2
  exact Option.some.inj (h2.symm.trans h1)
theorem qq_cL {D : va_G} {cl : List vw_C} {cI cL cR cA : ClassId} {s : State} (h : va_K D cl (qq_ty cI cL cR ++ [(cA, .long)]) s) : cA = cL := by
  have h1 := (h.2 1 (cL, .long) rfl).2
  have h2 := (h.2 3 (cA, .long) rfl).2
  exact Option.some.inj (h2.symm.trans h1)
theorem qq_cR {D : va_G} {cl : List vw_C} {cI cL cR cA : ClassId} {s : State} (h : va_K D cl (qq_ty cI cL cR ++ [(cA, .object RR_W)]) s) : cA = cR := by
  obtain ⟨_, _, _, _, _, h1⟩ := (h.2 2 (cR, .object RR_W) rfl).2
  obtain ⟨_, _, _, _, _, h2⟩ := (h.2 3 (cA, .object RR_W) rfl).2
  exact Option.some.inj (h2.symm.trans h1)
theorem qq_rows_eq (a b c d : Nat) : va_up (va_up (va_up (va_up (fun _ => none) 0 (some a)) 1 (some b)) 2 (some c)) 3 (some d) = qq_rows a b c d := by
  funext j
  match j with
  | 0 => rfl
  | 1 => rfl
  | 2 => rfl
  | 3 => rfl
  | n + 4 => simp [va_up, qq_rows]
