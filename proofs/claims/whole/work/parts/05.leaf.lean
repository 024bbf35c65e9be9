theorem dd_B_isSquare_0 : decode bb_B_isSquare 0 = .ok (.iload_n 0, 1) := by decide +kernel
theorem dd_B_isSquare_1 : decode bb_B_isSquare 1 = .ok (.ifCond .lt 13, 3) := by decide +kernel
theorem dd_B_isSquare_4 : decode bb_B_isSquare 4 = .ok (.iload_n 0, 1) := by decide +kernel
theorem dd_B_isSquare_5 : decode bb_B_isSquare 5 = .ok (.bipush 64, 2) := by decide +kernel
theorem dd_B_isSquare_7 : decode bb_B_isSquare 7 = .ok (.if_icmp .ge 7, 3) := by decide +kernel
theorem dd_B_isSquare_10 : decode bb_B_isSquare 10 = .ok (.iconst 1, 1) := by decide +kernel
theorem dd_B_isSquare_11 : decode bb_B_isSquare 11 = .ok (.goto 4, 3) := by decide +kernel
theorem dd_B_isSquare_14 : decode bb_B_isSquare 14 = .ok (.iconst 0, 1) := by decide +kernel
theorem dd_B_isSquare_15 : decode bb_B_isSquare 15 = .ok (.ireturn, 1) := by decide +kernel
abbrev ty_B_isSquare : Type := Int32
noncomputable def bk_B_isSquare_15 (a0 : Int32) (s0 : Int32) : Option ty_B_isSquare := qq_ck (qq_b s0) <| some s0
noncomputable def bk_B_isSquare_14 (a0 : Int32) : Option ty_B_isSquare := bk_B_isSquare_15 a0 0
noncomputable def fn_B_isSquare (a0 : Int32) : Option ty_B_isSquare := if a0 < 0 then (bk_B_isSquare_14 a0) else (if 64 ≤ a0 then (bk_B_isSquare_14 a0) else (bk_B_isSquare_15 a0 1))
abbrev rm_B_isSquare : Room := { frames := 0, cells := 0, slots := 0, locals := 0 }
set_option maxHeartbeats 4000000 in
set_option maxRecDepth 100000 in
theorem ct_B_isSquare (l : Launch) (dC : Nat → ClassId) (dI : Nat → Nat → Nat) (cI cL cR : ClassId) (a0 : Int32) {rr : Int32} (hf : fn_B_isSquare a0 = some rr) : qq_det l yy_B_isSquare (ww_of yy_B_isSquare bb_B_isSquare 1 (some .boolean)) rm_B_isSquare (dC, dI) (qq_ty cI cL cR) [.int a0] [] (some (.int rr)) [] := by
  refine qq_of (own := RR_B) (by decide) rfl (Nat.le_of_ble_eq_true rfl) ?_
  intro p e s m below meth c A Q ls hx hb hml hr hlocks hown hts hK hA hT hN hP hD hS hl hQ
  have hl : lv_has ls 1 [(0, .int a0)] := hl
  have hJ15 : ∀ (s0 : Int32) (H : Heap) (locs : List Loc) (ls : Array Slot), lv_has ls 1 [] → va_P (dC, dI) classes [] H → va_D A [] → va_S A s.heap H locs → bk_B_isSquare_15 a0 s0 = some rr → W p l e rm_B_isSquare s m ([.int a0] : List Value).toArray below meth c H locs 0 0 Q (F0 m 15 ls [.int s0]) := by
    intro s0 H locs ls hl hP hD hS hf
    rw [bk_B_isSquare_15] at hf
    obtain ⟨hzb, hf⟩ := qq_ckE hf
    cases hf
    exact qq_zret hx hb hr (qq_bE hzb) hlocks hQ hP hD hK hS dd_B_isSquare_15
  have hJ14 : ∀  (H : Heap) (locs : List Loc) (ls : Array Slot), lv_has ls 1 [] → va_P (dC, dI) classes [] H → va_D A [] → va_S A s.heap H locs → bk_B_isSquare_14 a0 = some rr → W p l e rm_B_isSquare s m ([.int a0] : List Value).toArray below meth c H locs 0 0 Q (F0 m 14 ls []) := by
    intro  H locs ls hl hP hD hS hf
    rw [bk_B_isSquare_14] at hf
    refine lv_iconst (v := 0) hx hb dd_B_isSquare_14 (by decide) ?_
    exact hJ15 0 _ _ _ (lv_sub hl [] rfl) hP hD hS hf
  rw [fn_B_isSquare] at hf
  refine lv_iload_n hx hb dd_B_isSquare_0 rfl (lv_at hl 0 rfl) ?_
  refine lv_if_lt (tgt := 14) hx hb dd_B_isSquare_1 (by decide) (fun hc => ?_) (fun hc => ?_)
  · replace hf := qq_t hc hf
    exact hJ14  _ _ _ (lv_sub hl [] rfl) hP hD hS hf
  · replace hf := qq_f hc hf
    refine lv_iload_n hx hb dd_B_isSquare_4 rfl (lv_at hl 0 rfl) ?_
    refine lv_bipush (v := 64) hx hb dd_B_isSquare_5 (by decide) ?_
    refine lv_icmp_ge (tgt := 14) hx hb dd_B_isSquare_7 (by decide) (fun hc => ?_) (fun hc => ?_)
    · replace hf := qq_t hc hf
      exact hJ14  _ _ _ (lv_sub hl [] rfl) hP hD hS hf
    · replace hf := qq_f hc hf
      refine lv_iconst (v := 1) hx hb dd_B_isSquare_10 (by decide) ?_
      refine lv_goto (tgt := 15) hx hb dd_B_isSquare_11 (by decide) ?_
      exact hJ15 1 _ _ _ (lv_sub hl [] rfl) hP hD hS hf
theorem dd_B_codeOf_0 : decode bb_B_codeOf 0 = .ok (.iload_n 0, 1) := by decide +kernel
theorem dd_B_codeOf_1 : decode bb_B_codeOf 1 = .ok (.bipush 64, 2) := by decide +kernel
theorem dd_B_codeOf_3 : decode bb_B_codeOf 3 = .ok (.iload_n 1, 1) := by decide +kernel
theorem dd_B_codeOf_4 : decode bb_B_codeOf 4 = .ok (.imul, 1) := by decide +kernel
theorem dd_B_codeOf_5 : decode bb_B_codeOf 5 = .ok (.iadd, 1) := by decide +kernel
theorem dd_B_codeOf_6 : decode bb_B_codeOf 6 = .ok (.sipush 4096, 3) := by decide +kernel
theorem dd_B_codeOf_9 : decode bb_B_codeOf 9 = .ok (.iload_n 2, 1) := by decide +kernel
theorem dd_B_codeOf_10 : decode bb_B_codeOf 10 = .ok (.imul, 1) := by decide +kernel
theorem dd_B_codeOf_11 : decode bb_B_codeOf 11 = .ok (.iadd, 1) := by decide +kernel
theorem dd_B_codeOf_12 : decode bb_B_codeOf 12 = .ok (.ireturn, 1) := by decide +kernel
abbrev ty_B_codeOf : Type := Int32
noncomputable def fn_B_codeOf (a0 : Int32) (a1 : Int32) (a2 : Int32) : Option ty_B_codeOf := some ((a0 + (64 * a1)) + (4096 * a2))
abbrev rm_B_codeOf : Room := { frames := 0, cells := 0, slots := 0, locals := 0 }
set_option maxHeartbeats 4000000 in
set_option maxRecDepth 100000 in
theorem ct_B_codeOf (l : Launch) (dC : Nat → ClassId) (dI : Nat → Nat → Nat) (cI cL cR : ClassId) (a0 : Int32) (a1 : Int32) (a2 : Int32) {rr : Int32} (hf : fn_B_codeOf a0 a1 a2 = some rr) : qq_det l yy_B_codeOf (ww_of yy_B_codeOf bb_B_codeOf 3 (some .int)) rm_B_codeOf (dC, dI) (qq_ty cI cL cR) [.int a0, .int a1, .int a2] [] (some (.int rr)) [] := by
  refine qq_of (own := RR_B) (by decide) rfl (Nat.le_of_ble_eq_true rfl) ?_
  intro p e s m below meth c A Q ls hx hb hml hr hlocks hown hts hK hA hT hN hP hD hS hl hQ
  have hl : lv_has ls 3 [(0, .int a0), (1, .int a1), (2, .int a2)] := hl
  rw [fn_B_codeOf] at hf
  refine lv_iload_n hx hb dd_B_codeOf_0 rfl (lv_at hl 0 rfl) ?_
  refine lv_bipush (v := 64) hx hb dd_B_codeOf_1 (by decide) ?_
  refine lv_iload_n hx hb dd_B_codeOf_3 rfl (lv_at hl 1 rfl) ?_
  refine lv_imul hx hb dd_B_codeOf_4 ?_
  refine lv_iadd hx hb dd_B_codeOf_5 ?_
  refine lv_sipush (v := 4096) hx hb dd_B_codeOf_6 (by decide) ?_
  refine lv_iload_n hx hb dd_B_codeOf_9 rfl (lv_at hl 2 rfl) ?_
  refine lv_imul hx hb dd_B_codeOf_10 ?_
  refine lv_iadd hx hb dd_B_codeOf_11 ?_
  cases hf
  exact qq_iret hx hb hr hlocks hQ hP hD hK hS dd_B_codeOf_12
theorem dd_B_isSide_0 : decode bb_B_isSide 0 = .ok (.iload_n 0, 1) := by decide +kernel
theorem dd_B_isSide_1 : decode bb_B_isSide 1 = .ok (.ifCond .eq 8, 3) := by decide +kernel
theorem dd_B_isSide_4 : decode bb_B_isSide 4 = .ok (.iload_n 0, 1) := by decide +kernel
theorem dd_B_isSide_5 : decode bb_B_isSide 5 = .ok (.iconst 1, 1) := by decide +kernel
theorem dd_B_isSide_6 : decode bb_B_isSide 6 = .ok (.if_icmp .ne 7, 3) := by decide +kernel
theorem dd_B_isSide_9 : decode bb_B_isSide 9 = .ok (.iconst 1, 1) := by decide +kernel
theorem dd_B_isSide_10 : decode bb_B_isSide 10 = .ok (.goto 4, 3) := by decide +kernel
theorem dd_B_isSide_13 : decode bb_B_isSide 13 = .ok (.iconst 0, 1) := by decide +kernel
theorem dd_B_isSide_14 : decode bb_B_isSide 14 = .ok (.ireturn, 1) := by decide +kernel
abbrev ty_B_isSide : Type := Int32
noncomputable def bk_B_isSide_14 (a0 : Int32) (s0 : Int32) : Option ty_B_isSide := qq_ck (qq_b s0) <| some s0
noncomputable def bk_B_isSide_9 (a0 : Int32) : Option ty_B_isSide := bk_B_isSide_14 a0 1
noncomputable def fn_B_isSide (a0 : Int32) : Option ty_B_isSide := if a0 = 0 then (bk_B_isSide_9 a0) else (if a0 = 1 then (bk_B_isSide_9 a0) else (bk_B_isSide_14 a0 0))
abbrev rm_B_isSide : Room := { frames := 0, cells := 0, slots := 0, locals := 0 }
set_option maxHeartbeats 4000000 in
set_option maxRecDepth 100000 in
theorem ct_B_isSide (l : Launch) (dC : Nat → ClassId) (dI : Nat → Nat → Nat) (cI cL cR : ClassId) (a0 : Int32) {rr : Int32} (hf : fn_B_isSide a0 = some rr) : qq_det l yy_B_isSide (ww_of yy_B_isSide bb_B_isSide 1 (some .boolean)) rm_B_isSide (dC, dI) (qq_ty cI cL cR) [.int a0] [] (some (.int rr)) [] := by
  refine qq_of (own := RR_B) (by decide) rfl (Nat.le_of_ble_eq_true rfl) ?_
  intro p e s m below meth c A Q ls hx hb hml hr hlocks hown hts hK hA hT hN hP hD hS hl hQ
  have hl : lv_has ls 1 [(0, .int a0)] := hl
  have hJ14 : ∀ (s0 : Int32) (H : Heap) (locs : List Loc) (ls : Array Slot), lv_has ls 1 [] → va_P (dC, dI) classes [] H → va_D A [] → va_S A s.heap H locs → bk_B_isSide_14 a0 s0 = some rr → W p l e rm_B_isSide s m ([.int a0] : List Value).toArray below meth c H locs 0 0 Q (F0 m 14 ls [.int s0]) := by
    intro s0 H locs ls hl hP hD hS hf
    rw [bk_B_isSide_14] at hf
    obtain ⟨hzb, hf⟩ := qq_ckE hf
    cases hf
    exact qq_zret hx hb hr (qq_bE hzb) hlocks hQ hP hD hK hS dd_B_isSide_14
  have hJ9 : ∀  (H : Heap) (locs : List Loc) (ls : Array Slot), lv_has ls 1 [] → va_P (dC, dI) classes [] H → va_D A [] → va_S A s.heap H locs → bk_B_isSide_9 a0 = some rr → W p l e rm_B_isSide s m ([.int a0] : List Value).toArray below meth c H locs 0 0 Q (F0 m 9 ls []) := by
    intro  H locs ls hl hP hD hS hf
    rw [bk_B_isSide_9] at hf
    refine lv_iconst (v := 1) hx hb dd_B_isSide_9 (by decide) ?_
    refine lv_goto (tgt := 14) hx hb dd_B_isSide_10 (by decide) ?_
    exact hJ14 1 _ _ _ (lv_sub hl [] rfl) hP hD hS hf
  rw [fn_B_isSide] at hf
  refine lv_iload_n hx hb dd_B_isSide_0 rfl (lv_at hl 0 rfl) ?_
  refine lv_if_eq (tgt := 9) hx hb dd_B_isSide_1 (by decide) (fun hc => ?_) (fun hc => ?_)
  · replace hf := qq_t hc hf
    exact hJ9  _ _ _ (lv_sub hl [] rfl) hP hD hS hf
  · replace hf := qq_f hc hf
    refine lv_iload_n hx hb dd_B_isSide_4 rfl (lv_at hl 0 rfl) ?_
    refine lv_iconst (v := 1) hx hb dd_B_isSide_5 (by decide) ?_
    refine lv_icmp_ne (tgt := 13) hx hb dd_B_isSide_6 (by decide) (fun hc => ?_) (fun hc => ?_)
    · replace hf := qq_f hc hf
      refine lv_iconst (v := 0) hx hb dd_B_isSide_13 (by decide) ?_
      exact hJ14 0 _ _ _ (lv_sub hl [] rfl) hP hD hS hf
    · replace hf := qq_t hc hf
      exact hJ9  _ _ _ (lv_sub hl [] rfl) hP hD hS hf
theorem dd_W_add_0 : decode bb_W_add 0 = .ok (.aload_n 0, 1) := by decide +kernel
theorem dd_W_add_1 : decode bb_W_add 1 = .ok (.getfield 15, 3) := by decide +kernel
theorem dd_W_add_4 : decode bb_W_add 4 = .ok (.aload_n 0, 1) := by decide +kernel
theorem dd_W_add_5 : decode bb_W_add 5 = .ok (.getfield 9, 3) := by decide +kernel
theorem dd_W_add_8 : decode bb_W_add 8 = .ok (.arraylength, 1) := by decide +kernel
theorem dd_W_add_9 : decode bb_W_add 9 = .ok (.if_icmp .ge 23, 3) := by decide +kernel
theorem dd_W_add_12 : decode bb_W_add 12 = .ok (.aload_n 0, 1) := by decide +kernel
theorem dd_W_add_13 : decode bb_W_add 13 = .ok (.getfield 9, 3) := by decide +kernel
theorem dd_W_add_16 : decode bb_W_add 16 = .ok (.aload_n 0, 1) := by decide +kernel
theorem dd_W_add_17 : decode bb_W_add 17 = .ok (.getfield 15, 3) := by decide +kernel
theorem dd_W_add_20 : decode bb_W_add 20 = .ok (.iload_n 1, 1) := by decide +kernel
theorem dd_W_add_21 : decode bb_W_add 21 = .ok (.iastore, 1) := by decide +kernel
theorem dd_W_add_22 : decode bb_W_add 22 = .ok (.aload_n 0, 1) := by decide +kernel
theorem dd_W_add_23 : decode bb_W_add 23 = .ok (.dup, 1) := by decide +kernel
theorem dd_W_add_24 : decode bb_W_add 24 = .ok (.getfield 15, 3) := by decide +kernel
theorem dd_W_add_27 : decode bb_W_add 27 = .ok (.iconst 1, 1) := by decide +kernel
theorem dd_W_add_28 : decode bb_W_add 28 = .ok (.iadd, 1) := by decide +kernel
theorem dd_W_add_29 : decode bb_W_add 29 = .ok (.putfield 15, 3) := by decide +kernel
theorem dd_W_add_32 : decode bb_W_add 32 = .ok (.return_, 1) := by decide +kernel
abbrev ty_W_add : Type := Int32 × (Nat → Int32)
noncomputable def bk_W_add_32 (a1 : Int32) (rn : Int32) (rc : Nat → Int32) : Option ty_W_add := some (rn, rc)
noncomputable def fn_W_add (rn : Int32) (rc : Nat → Int32) (a1 : Int32) : Option ty_W_add := if 415 ≤ rn then (bk_W_add_32 a1 rn rc) else (qq_ck (qq_in rn 415) <| qq_let (upd rc rn.toNatClampNeg a1) fun rc_2 => qq_let (rn + 1) fun v3 => bk_W_add_32 a1 v3 rc_2)
abbrev rm_W_add : Room := { frames := 0, cells := 0, slots := 0, locals := 0 }
set_option maxHeartbeats 4000000 in
set_option maxRecDepth 100000 in
theorem ct_W_add (l : Launch) (dC : Nat → ClassId) (dI : Nat → Nat → Nat) (cI cL cR : ClassId) (oW orc : Nat) (rn : Int32) (rc : Nat → Int32) (a1 : Int32) {rn' : Int32} {rc' : Nat → Int32} (hf : fn_W_add rn rc a1 = some (rn', rc')) : qq_det l yy_W_add (ww_of yy_W_add bb_W_add 2 none) rm_W_add (dC, dI) (qq_ty cI cL cR) [.ref oW, .int a1] [(oW, .inr (2, [.ref orc, .int rn])), (orc, .inl (cI, 415, .inl rc))] none [(oW, .inr (2, [.ref orc, .int rn'])), (orc, .inl (cI, 415, .inl rc'))] := by
  refine qq_of (own := RR_W) (by decide) rfl (Nat.le_of_ble_eq_true rfl) ?_
  intro p e s m below meth c A Q ls hx hb hml hr hlocks hown hts hK hA hT hN hP hD hS hl hQ
  have hl : lv_has ls 2 [(0, .ref oW), (1, .int a1)] := hl
  have hJ32 : ∀ (rn : Int32) (rc : Nat → Int32) (H : Heap) (locs : List Loc) (ls : Array Slot), lv_has ls 2 [] → va_P (dC, dI) classes [(oW, .inr (2, [.ref orc, .int rn])), (orc, .inl (cI, 415, .inl rc))] H → va_D A [(oW, .inr (2, [.ref orc, .int rn])), (orc, .inl (cI, 415, .inl rc))] → va_S A s.heap H locs → bk_W_add_32 a1 rn rc = some (rn', rc') → W p l e rm_W_add s m ([.ref oW, .int a1] : List Value).toArray below meth c H locs 0 0 Q (F0 m 32 ls []) := by
    intro rn rc H locs ls hl hP hD hS hf
    rw [bk_W_add_32] at hf
    cases hf
    exact qq_vret hx hb hr hlocks hQ hP hD hK hS dd_W_add_32
  rw [fn_W_add] at hf
  refine lv_aload_n hx hb dd_W_add_0 rfl (lv_at hl 0 rfl) ?_
  refine va_get (D := (dC, dI)) (ci := 2) (v := .int rn) (C := RR_W) (T := FF_W) (N := 2) hx hb hts uu_W hown hK hP 0 rfl rfl 1 (by decide) (hts _ mm_34) (fun _ h9 => h9) rfl dd_W_add_1 ?_
  refine lv_aload_n hx hb dd_W_add_4 rfl (lv_at hl 0 rfl) ?_
  refine va_get (D := (dC, dI)) (ci := 2) (v := .ref orc) (C := RR_W) (T := FF_W) (N := 2) hx hb hts uu_W hown hK hP 0 rfl rfl 0 (by decide) (hts _ mm_35) (fun _ h9 => h9) rfl dd_W_add_5 ?_
  refine va_alen (D := (dC, dI)) (v := 415) hx hb hK hP 1 0 rfl rfl rfl dd_W_add_8 ?_
  refine lv_icmp_ge (tgt := 32) hx hb dd_W_add_9 (by decide) (fun hc => ?_) (fun hc => ?_)
  · replace hf := qq_t hc hf
    exact hJ32 rn rc _ _ _ (lv_sub hl [] rfl) hP hD hS hf
  · replace hf := qq_f hc hf
    refine lv_aload_n hx hb dd_W_add_12 rfl (lv_at hl 0 rfl) ?_
    refine va_get (D := (dC, dI)) (ci := 2) (v := .ref orc) (C := RR_W) (T := FF_W) (N := 2) hx hb hts uu_W hown hK hP 0 rfl rfl 0 (by decide) (hts _ mm_35) (fun _ h9 => h9) rfl dd_W_add_13 ?_
    refine lv_aload_n hx hb dd_W_add_16 rfl (lv_at hl 0 rfl) ?_
    refine va_get (D := (dC, dI)) (ci := 2) (v := .int rn) (C := RR_W) (T := FF_W) (N := 2) hx hb hts uu_W hown hK hP 0 rfl rfl 1 (by decide) (hts _ mm_34) (fun _ h9 => h9) rfl dd_W_add_17 ?_
    refine lv_iload_n hx hb dd_W_add_20 rfl (lv_at hl 1 rfl) ?_
    obtain ⟨hi1, hf⟩ := qq_ckE hf
    refine va_iast (D := (dC, dI)) (f := rc) (n := 415) (cA := cI) hx hb hK hP hD hS 1 0 rfl rfl (qq_inE hi1) dd_W_add_21 (fun H locs hP hD hS => ?_)
    obtain ⟨rc_2, erc_2⟩ : ∃ z, z = upd rc rn.toNatClampNeg a1 := ⟨_, rfl⟩
    replace hf := qq_lt erc_2 hf
    have hP : va_P (dC, dI) classes [(oW, .inr (2, [.ref orc, .int rn])), (orc, .inl (cI, 415, .inl rc_2))] H := by rw [erc_2]; exact hP
    have hD : va_D A [(oW, .inr (2, [.ref orc, .int rn])), (orc, .inl (cI, 415, .inl rc_2))] := by rw [erc_2]; exact hD
    refine lv_aload_n hx hb dd_W_add_22 rfl (lv_at hl 0 rfl) ?_
    refine lv_dup hx hb dd_W_add_23 rfl ?_
    refine va_get (D := (dC, dI)) (ci := 2) (v := .int rn) (C := RR_W) (T := FF_W) (N := 2) hx hb hts uu_W hown hK hP 0 rfl rfl 1 (by decide) (hts _ mm_34) (fun _ h9 => h9) rfl dd_W_add_24 ?_
    refine lv_iconst (v := 1) hx hb dd_W_add_27 (by decide) ?_
    refine lv_iadd hx hb dd_W_add_28 ?_
    refine lv_topi (fun v3 ev3 => ?_)
    replace hf := qq_lt ev3 hf
    refine va_put (D := (dC, dI)) (ci := 2) (v := .int v3) (ty := .int) (C := RR_W) (T := FF_W) (N := 2) hx hb hts uu_W tt_W tt_W_ok nn_W hown hK hP hD hS 0 rfl rfl 1 (by decide) (hts _ mm_34) (fun _ h9 => h9) rfl (by decide +kernel) rfl rfl (Nat.le_of_ble_eq_true rfl) dd_W_add_29 (fun H locs hP hD hS => ?_)
    have hP : va_P (dC, dI) classes [(oW, .inr (2, [.ref orc, .int v3])), (orc, .inl (cI, 415, .inl rc_2))] H := hP
    have hD : va_D A [(oW, .inr (2, [.ref orc, .int v3])), (orc, .inl (cI, 415, .inl rc_2))] := hD
    exact hJ32 v3 rc_2 _ _ _ (lv_sub hl [] rfl) hP hD hS hf
theorem dd_W_holds_0 : decode bb_W_holds 0 = .ok (.iconst 0, 1) := by decide +kernel
theorem dd_W_holds_1 : decode bb_W_holds 1 = .ok (.istore_n 2, 1) := by decide +kernel
theorem dd_W_holds_2 : decode bb_W_holds 2 = .ok (.iload_n 2, 1) := by decide +kernel
theorem dd_W_holds_3 : decode bb_W_holds 3 = .ok (.aload_n 0, 1) := by decide +kernel
theorem dd_W_holds_4 : decode bb_W_holds 4 = .ok (.getfield 15, 3) := by decide +kernel
theorem dd_W_holds_7 : decode bb_W_holds 7 = .ok (.if_icmp .ge 21, 3) := by decide +kernel
theorem dd_W_holds_10 : decode bb_W_holds 10 = .ok (.aload_n 0, 1) := by decide +kernel
theorem dd_W_holds_11 : decode bb_W_holds 11 = .ok (.getfield 9, 3) := by decide +kernel
theorem dd_W_holds_14 : decode bb_W_holds 14 = .ok (.iload_n 2, 1) := by decide +kernel
theorem dd_W_holds_15 : decode bb_W_holds 15 = .ok (.iaload, 1) := by decide +kernel
theorem dd_W_holds_16 : decode bb_W_holds 16 = .ok (.iload_n 1, 1) := by decide +kernel
theorem dd_W_holds_17 : decode bb_W_holds 17 = .ok (.if_icmp .ne 5, 3) := by decide +kernel
theorem dd_W_holds_20 : decode bb_W_holds 20 = .ok (.iconst 1, 1) := by decide +kernel
theorem dd_W_holds_21 : decode bb_W_holds 21 = .ok (.ireturn, 1) := by decide +kernel
theorem dd_W_holds_22 : decode bb_W_holds 22 = .ok (.iinc 2 1, 3) := by decide +kernel
theorem dd_W_holds_25 : decode bb_W_holds 25 = .ok (.goto (-23), 3) := by decide +kernel
theorem dd_W_holds_28 : decode bb_W_holds 28 = .ok (.iconst 0, 1) := by decide +kernel
theorem dd_W_holds_29 : decode bb_W_holds 29 = .ok (.ireturn, 1) := by decide +kernel
abbrev ty_W_holds : Type := Int32
noncomputable def lo_W_holds_2 (rn : Int32) (rc : Nat → Int32) (a1 : Int32) : Nat → Int32 → Option ty_W_holds
  | 0, _ => none
  | n + 1, x2 => if rn ≤ x2 then (some (0 : Int32)) else (qq_ck (qq_in x2 415) <| if (rc x2.toNatClampNeg) = a1 then (some (1 : Int32)) else (qq_let (x2 + 1) fun v1002 => (lo_W_holds_2 rn rc a1 n) v1002))
theorem lo_W_holds_2_z (rn : Int32) (rc : Nat → Int32) (a1 : Int32) (x2 : Int32) : lo_W_holds_2 rn rc a1 0 x2 = none := rfl
theorem lo_W_holds_2_s (rn : Int32) (rc : Nat → Int32) (a1 : Int32) (x2 : Int32) (n : Nat) : lo_W_holds_2 rn rc a1 (n + 1) x2 = (if rn ≤ x2 then (some (0 : Int32)) else (qq_ck (qq_in x2 415) <| if (rc x2.toNatClampNeg) = a1 then (some (1 : Int32)) else (qq_let (x2 + 1) fun v1002 => (lo_W_holds_2 rn rc a1 n) v1002))) := rfl
noncomputable def fn_W_holds (rn : Int32) (rc : Nat → Int32) (a1 : Int32) : Option ty_W_holds := lo_W_holds_2 rn rc a1 qq_FU 0
abbrev rm_W_holds : Room := { frames := 0, cells := 0, slots := 0, locals := 0 }
set_option maxHeartbeats 4000000 in
set_option maxRecDepth 100000 in
theorem ct_W_holds (l : Launch) (dC : Nat → ClassId) (dI : Nat → Nat → Nat) (cI cL cR : ClassId) (oW orc : Nat) (rn : Int32) (rc : Nat → Int32) (a1 : Int32) {rr : Int32} (hf : fn_W_holds rn rc a1 = some rr) : qq_det l yy_W_holds (ww_of yy_W_holds bb_W_holds 3 (some .boolean)) rm_W_holds (dC, dI) (qq_ty cI cL cR) [.ref oW, .int a1] [(oW, .inr (2, [.ref orc, .int rn])), (orc, .inl (cI, 415, .inl rc))] (some (.int rr)) [(oW, .inr (2, [.ref orc, .int rn])), (orc, .inl (cI, 415, .inl rc))] := by
  refine qq_of (own := RR_W) (by decide) rfl (Nat.le_of_ble_eq_true rfl) ?_
  intro p e s m below meth c A Q ls hx hb hml hr hlocks hown hts hK hA hT hN hP hD hS hl hQ
  have hl : lv_has ls 3 [(0, .ref oW), (1, .int a1)] := hl
  have hL2 : ∀ (n2 : Nat) (x2 : Int32) (H : Heap) (locs : List Loc) (ls : Array Slot), lv_has ls 3 [(0, .ref oW), (1, .int a1), (2, .int x2)] → va_P (dC, dI) classes [(oW, .inr (2, [.ref orc, .int rn])), (orc, .inl (cI, 415, .inl rc))] H → va_D A [(oW, .inr (2, [.ref orc, .int rn])), (orc, .inl (cI, 415, .inl rc))] → va_S A s.heap H locs → lo_W_holds_2 rn rc a1 n2 x2 = some rr → W p l e rm_W_holds s m ([.ref oW, .int a1] : List Value).toArray below meth c H locs 0 0 Q (F0 m 2 ls []) := by
    intro n2
    induction n2 with
    | zero => exact fun x2 H locs ls hl hP hD hS hf => absurd hf (by rw [lo_W_holds_2_z]; exact fun h => by cases h)
    | succ n2 ih2 =>
      intro x2 H locs ls hl hP hD hS hf
      rw [lo_W_holds_2_s] at hf
      refine lv_iload_n hx hb dd_W_holds_2 rfl (lv_at hl 2 rfl) ?_
      refine lv_aload_n hx hb dd_W_holds_3 rfl (lv_at hl 0 rfl) ?_
      refine va_get (D := (dC, dI)) (ci := 2) (v := .int rn) (C := RR_W) (T := FF_W) (N := 2) hx hb hts uu_W hown hK hP 0 rfl rfl 1 (by decide) (hts _ mm_34) (fun _ h9 => h9) rfl dd_W_holds_4 ?_
      refine lv_icmp_ge (tgt := 28) hx hb dd_W_holds_7 (by decide) (fun hc => ?_) (fun hc => ?_)
      · replace hf := qq_t hc hf
        refine lv_iconst (v := 0) hx hb dd_W_holds_28 (by decide) ?_
        cases hf
        exact qq_zret hx hb hr rfl hlocks hQ hP hD hK hS dd_W_holds_29
      · replace hf := qq_f hc hf
        refine lv_aload_n hx hb dd_W_holds_10 rfl (lv_at hl 0 rfl) ?_
        refine va_get (D := (dC, dI)) (ci := 2) (v := .ref orc) (C := RR_W) (T := FF_W) (N := 2) hx hb hts uu_W hown hK hP 0 rfl rfl 0 (by decide) (hts _ mm_35) (fun _ h9 => h9) rfl dd_W_holds_11 ?_
        refine lv_iload_n hx hb dd_W_holds_14 rfl (lv_at hl 2 rfl) ?_
        obtain ⟨hi1001, hf⟩ := qq_ckE hf
        refine va_iald (D := (dC, dI)) (f := rc) (n := 415) (cA := cI) hx hb hK hP 1 0 rfl rfl (qq_inE hi1001) dd_W_holds_15 ?_
        refine lv_iload_n hx hb dd_W_holds_16 rfl (lv_at hl 1 rfl) ?_
        refine lv_icmp_ne (tgt := 22) hx hb dd_W_holds_17 (by decide) (fun hc => ?_) (fun hc => ?_)
        · replace hf := qq_f hc hf
          obtain ⟨v1002, ev1002⟩ : ∃ z, z = x2 + 1 := ⟨_, rfl⟩
          replace hf := qq_lt ev1002 hf
          refine lv_iinc (k := 2) (v := v1002) (lv' := [(2, .int v1002), (0, .ref oW), (1, .int a1)]) hx hb dd_W_holds_22 hl rfl (by rw [ev1002]; exact congrArg _ (by decide)) (by decide) rfl (fun ls hl => ?_)
          refine lv_goto (tgt := 2) hx hb dd_W_holds_25 (by decide) ?_
          exact ih2 v1002 _ _ _ (lv_sub hl [1, 2, 0] rfl) hP hD hS hf
        · replace hf := qq_t hc hf
          refine lv_iconst (v := 1) hx hb dd_W_holds_20 (by decide) ?_
          cases hf
          exact qq_zret hx hb hr rfl hlocks hQ hP hD hK hS dd_W_holds_21
  rw [fn_W_holds] at hf
  refine lv_iconst (v := 0) hx hb dd_W_holds_0 (by decide) ?_
  refine lv_istore_n (lv' := [(2, .int 0), (0, .ref oW), (1, .int a1)]) hx hb dd_W_holds_1 rfl hl (by decide) rfl (fun ls hl => ?_)
  exact hL2 qq_FU 0 _ _ _ (lv_sub hl [1, 2, 0] rfl) hP hD hS hf
theorem dd_P_stepsToBorder_0 : decode bb_P_stepsToBorder 0 = .ok (.iload_n 1, 1) := by decide +kernel
theorem dd_P_stepsToBorder_1 : decode bb_P_stepsToBorder 1 = .ok (.bipush 8, 2) := by decide +kernel
theorem dd_P_stepsToBorder_3 : decode bb_P_stepsToBorder 3 = .ok (.irem, 1) := by decide +kernel
theorem dd_P_stepsToBorder_4 : decode bb_P_stepsToBorder 4 = .ok (.istore_n 2, 1) := by decide +kernel
theorem dd_P_stepsToBorder_5 : decode bb_P_stepsToBorder 5 = .ok (.iload_n 1, 1) := by decide +kernel
theorem dd_P_stepsToBorder_6 : decode bb_P_stepsToBorder 6 = .ok (.bipush 8, 2) := by decide +kernel
theorem dd_P_stepsToBorder_8 : decode bb_P_stepsToBorder 8 = .ok (.idiv, 1) := by decide +kernel
theorem dd_P_stepsToBorder_9 : decode bb_P_stepsToBorder 9 = .ok (.istore_n 3, 1) := by decide +kernel
theorem dd_P_stepsToBorder_10 : decode bb_P_stepsToBorder 10 = .ok (.getstatic 42, 3) := by decide +kernel
theorem dd_P_stepsToBorder_13 : decode bb_P_stepsToBorder 13 = .ok (.iload_n 0, 1) := by decide +kernel
theorem dd_P_stepsToBorder_14 : decode bb_P_stepsToBorder 14 = .ok (.iaload, 1) := by decide +kernel
theorem dd_P_stepsToBorder_15 : decode bb_P_stepsToBorder 15 = .ok (.ifCond .le 10, 3) := by decide +kernel
theorem dd_P_stepsToBorder_18 : decode bb_P_stepsToBorder 18 = .ok (.bipush 7, 2) := by decide +kernel
theorem dd_P_stepsToBorder_20 : decode bb_P_stepsToBorder 20 = .ok (.iload_n 2, 1) := by decide +kernel
theorem dd_P_stepsToBorder_21 : decode bb_P_stepsToBorder 21 = .ok (.isub, 1) := by decide +kernel
theorem dd_P_stepsToBorder_22 : decode bb_P_stepsToBorder 22 = .ok (.goto 17, 3) := by decide +kernel
theorem dd_P_stepsToBorder_25 : decode bb_P_stepsToBorder 25 = .ok (.getstatic 42, 3) := by decide +kernel
theorem dd_P_stepsToBorder_28 : decode bb_P_stepsToBorder 28 = .ok (.iload_n 0, 1) := by decide +kernel
theorem dd_P_stepsToBorder_29 : decode bb_P_stepsToBorder 29 = .ok (.iaload, 1) := by decide +kernel
theorem dd_P_stepsToBorder_30 : decode bb_P_stepsToBorder 30 = .ok (.ifCond .ge 7, 3) := by decide +kernel
theorem dd_P_stepsToBorder_33 : decode bb_P_stepsToBorder 33 = .ok (.iload_n 2, 1) := by decide +kernel
theorem dd_P_stepsToBorder_34 : decode bb_P_stepsToBorder 34 = .ok (.goto 5, 3) := by decide +kernel
theorem dd_P_stepsToBorder_37 : decode bb_P_stepsToBorder 37 = .ok (.bipush 7, 2) := by decide +kernel
theorem dd_P_stepsToBorder_39 : decode bb_P_stepsToBorder 39 = .ok (.istore 4, 2) := by decide +kernel
theorem dd_P_stepsToBorder_41 : decode bb_P_stepsToBorder 41 = .ok (.getstatic 39, 3) := by decide +kernel
theorem dd_P_stepsToBorder_44 : decode bb_P_stepsToBorder 44 = .ok (.iload_n 0, 1) := by decide +kernel
theorem dd_P_stepsToBorder_45 : decode bb_P_stepsToBorder 45 = .ok (.iaload, 1) := by decide +kernel
theorem dd_P_stepsToBorder_46 : decode bb_P_stepsToBorder 46 = .ok (.ifCond .le 10, 3) := by decide +kernel
theorem dd_P_stepsToBorder_49 : decode bb_P_stepsToBorder 49 = .ok (.bipush 7, 2) := by decide +kernel
theorem dd_P_stepsToBorder_51 : decode bb_P_stepsToBorder 51 = .ok (.iload_n 3, 1) := by decide +kernel
theorem dd_P_stepsToBorder_52 : decode bb_P_stepsToBorder 52 = .ok (.isub, 1) := by decide +kernel
theorem dd_P_stepsToBorder_53 : decode bb_P_stepsToBorder 53 = .ok (.goto 17, 3) := by decide +kernel
theorem dd_P_stepsToBorder_56 : decode bb_P_stepsToBorder 56 = .ok (.getstatic 39, 3) := by decide +kernel
theorem dd_P_stepsToBorder_59 : decode bb_P_stepsToBorder 59 = .ok (.iload_n 0, 1) := by decide +kernel
theorem dd_P_stepsToBorder_60 : decode bb_P_stepsToBorder 60 = .ok (.iaload, 1) := by decide +kernel
theorem dd_P_stepsToBorder_61 : decode bb_P_stepsToBorder 61 = .ok (.ifCond .ge 7, 3) := by decide +kernel
theorem dd_P_stepsToBorder_64 : decode bb_P_stepsToBorder 64 = .ok (.iload_n 3, 1) := by decide +kernel
theorem dd_P_stepsToBorder_65 : decode bb_P_stepsToBorder 65 = .ok (.goto 5, 3) := by decide +kernel
theorem dd_P_stepsToBorder_68 : decode bb_P_stepsToBorder 68 = .ok (.bipush 7, 2) := by decide +kernel
theorem dd_P_stepsToBorder_70 : decode bb_P_stepsToBorder 70 = .ok (.istore 5, 2) := by decide +kernel
theorem dd_P_stepsToBorder_72 : decode bb_P_stepsToBorder 72 = .ok (.iload 4, 2) := by decide +kernel
theorem dd_P_stepsToBorder_74 : decode bb_P_stepsToBorder 74 = .ok (.iload 5, 2) := by decide +kernel
theorem dd_P_stepsToBorder_76 : decode bb_P_stepsToBorder 76 = .ok (.if_icmp .ge 8, 3) := by decide +kernel
theorem dd_P_stepsToBorder_79 : decode bb_P_stepsToBorder 79 = .ok (.iload 4, 2) := by decide +kernel
theorem dd_P_stepsToBorder_81 : decode bb_P_stepsToBorder 81 = .ok (.goto 5, 3) := by decide +kernel
theorem dd_P_stepsToBorder_84 : decode bb_P_stepsToBorder 84 = .ok (.iload 5, 2) := by decide +kernel
theorem dd_P_stepsToBorder_86 : decode bb_P_stepsToBorder 86 = .ok (.ireturn, 1) := by decide +kernel
abbrev ty_P_stepsToBorder : Type := Int32
noncomputable def bk_P_stepsToBorder_86 (a0 : Int32) (a1 : Int32) (s0 : Int32) : Option ty_P_stepsToBorder := some s0
noncomputable def bk_P_stepsToBorder_70 (a0 : Int32) (a1 : Int32) (x4 : Int32) (s0 : Int32) : Option ty_P_stepsToBorder := if s0 ≤ x4 then (bk_P_stepsToBorder_86 a0 a1 s0) else (bk_P_stepsToBorder_86 a0 a1 x4)
noncomputable def bk_P_stepsToBorder_39 (a0 : Int32) (a1 : Int32) (x3 : Int32) (s0 : Int32) : Option ty_P_stepsToBorder := qq_ck (qq_in a0 8) <| if (tb_WAY_RANKS a0.toNatClampNeg) ≤ 0 then (qq_ck (qq_in a0 8) <| if 0 ≤ (tb_WAY_RANKS a0.toNatClampNeg) then (bk_P_stepsToBorder_70 a0 a1 s0 7) else (bk_P_stepsToBorder_70 a0 a1 s0 x3)) else (bk_P_stepsToBorder_70 a0 a1 s0 (7 - x3))
noncomputable def fn_P_stepsToBorder (a0 : Int32) (a1 : Int32) : Option ty_P_stepsToBorder := qq_let (a1 - a1 / 8 * 8) fun v1 => qq_let (a1 / 8) fun v2 => qq_ck (qq_in a0 8) <| if (tb_WAY_FILES a0.toNatClampNeg) ≤ 0 then (qq_ck (qq_in a0 8) <| if 0 ≤ (tb_WAY_FILES a0.toNatClampNeg) then (bk_P_stepsToBorder_39 a0 a1 v2 7) else (bk_P_stepsToBorder_39 a0 a1 v2 v1)) else (bk_P_stepsToBorder_39 a0 a1 v2 (7 - v1))
abbrev rm_P_stepsToBorder : Room := { frames := 0, cells := 0, slots := 0, locals := 0 }
set_option maxHeartbeats 4000000 in
set_option maxRecDepth 100000 in
theorem ct_P_stepsToBorder (l : Launch) (dC : Nat → ClassId) (dI : Nat → Nat → Nat) (cI cL cR : ClassId) (a0 : Int32) (a1 : Int32) {rr : Int32} (hf : fn_P_stepsToBorder a0 a1 = some rr) : qq_det l yy_P_stepsToBorder (ww_of yy_P_stepsToBorder bb_P_stepsToBorder 6 (some .int)) rm_P_stepsToBorder (dC, dI) (qq_ty cI cL cR) [.int a0, .int a1] [] (some (.int rr)) [] := by
  refine qq_of (own := RR_P) (by decide) rfl (Nat.le_of_ble_eq_true rfl) ?_
  intro p e s m below meth c A Q ls hx hb hml hr hlocks hown hts hK hA hT hN hP hD hS hl hQ
  have hl : lv_has ls 6 [(0, .int a0), (1, .int a1)] := hl
  obtain ⟨t_WAY_FILES, hZ_WAY_FILES, hT_WAY_FILES⟩ := qq_T1 hT
  obtain ⟨t_WAY_RANKS, hZ_WAY_RANKS, hT_WAY_RANKS⟩ := qq_T2 hT
  have hJ86 : ∀ (s0 : Int32) (H : Heap) (locs : List Loc) (ls : Array Slot), lv_has ls 6 [] → va_P (dC, dI) classes [] H → va_D A [] → va_S A s.heap H locs → bk_P_stepsToBorder_86 a0 a1 s0 = some rr → W p l e rm_P_stepsToBorder s m ([.int a0, .int a1] : List Value).toArray below meth c H locs 0 0 Q (F0 m 86 ls [.int s0]) := by
    intro s0 H locs ls hl hP hD hS hf
    rw [bk_P_stepsToBorder_86] at hf
    cases hf
    exact qq_iret hx hb hr hlocks hQ hP hD hK hS dd_P_stepsToBorder_86
  have hJ70 : ∀ (x4 : Int32) (s0 : Int32) (H : Heap) (locs : List Loc) (ls : Array Slot), lv_has ls 6 [(4, .int x4)] → va_P (dC, dI) classes [] H → va_D A [] → va_S A s.heap H locs → bk_P_stepsToBorder_70 a0 a1 x4 s0 = some rr → W p l e rm_P_stepsToBorder s m ([.int a0, .int a1] : List Value).toArray below meth c H locs 0 0 Q (F0 m 70 ls [.int s0]) := by
    intro x4 s0 H locs ls hl hP hD hS hf
    rw [bk_P_stepsToBorder_70] at hf
    refine lv_istore (lv' := [(5, .int s0), (4, .int x4)]) hx hb dd_P_stepsToBorder_70 hl (by decide) rfl (fun ls hl => ?_)
    refine lv_iload hx hb dd_P_stepsToBorder_72 (lv_at hl 1 rfl) ?_
    refine lv_iload hx hb dd_P_stepsToBorder_74 (lv_at hl 0 rfl) ?_
    refine lv_icmp_ge (tgt := 84) hx hb dd_P_stepsToBorder_76 (by decide) (fun hc => ?_) (fun hc => ?_)
    · replace hf := qq_t hc hf
      refine lv_iload hx hb dd_P_stepsToBorder_84 (lv_at hl 0 rfl) ?_
      exact hJ86 s0 _ _ _ (lv_sub hl [] rfl) hP hD hS hf
    · replace hf := qq_f hc hf
      refine lv_iload hx hb dd_P_stepsToBorder_79 (lv_at hl 1 rfl) ?_
      refine lv_goto (tgt := 86) hx hb dd_P_stepsToBorder_81 (by decide) ?_
      exact hJ86 x4 _ _ _ (lv_sub hl [] rfl) hP hD hS hf
  have hJ39 : ∀ (x3 : Int32) (s0 : Int32) (H : Heap) (locs : List Loc) (ls : Array Slot), lv_has ls 6 [(0, .int a0), (3, .int x3)] → va_P (dC, dI) classes [] H → va_D A [] → va_S A s.heap H locs → bk_P_stepsToBorder_39 a0 a1 x3 s0 = some rr → W p l e rm_P_stepsToBorder s m ([.int a0, .int a1] : List Value).toArray below meth c H locs 0 0 Q (F0 m 39 ls [.int s0]) := by
    intro x3 s0 H locs ls hl hP hD hS hf
    rw [bk_P_stepsToBorder_39] at hf
    refine lv_istore (lv' := [(4, .int s0), (0, .int a0), (3, .int x3)]) hx hb dd_P_stepsToBorder_39 hl (by decide) rfl (fun ls hl => ?_)
    refine va_gets (C := RR_P) (n := "WAY_RANKS") (d := "[I") (ref := RR_P) hx hb hZ_WAY_RANKS hS hown (hts _ mm_54) (fun _ h9 => h9) dd_P_stepsToBorder_41 ?_
    refine lv_iload_n hx hb dd_P_stepsToBorder_44 rfl (lv_at hl 1 rfl) ?_
    obtain ⟨hi3001, hf⟩ := qq_ckE hf
    refine va_ti (v := .int (tb_WAY_RANKS a0.toNatClampNeg)) hx hb hT_WAY_RANKS hS (qq_inE hi3001) rfl dd_P_stepsToBorder_45 ?_
    refine lv_if_le (tgt := 56) hx hb dd_P_stepsToBorder_46 (by decide) (fun hc => ?_) (fun hc => ?_)
    · replace hf := qq_t hc hf
      refine va_gets (C := RR_P) (n := "WAY_RANKS") (d := "[I") (ref := RR_P) hx hb hZ_WAY_RANKS hS hown (hts _ mm_54) (fun _ h9 => h9) dd_P_stepsToBorder_56 ?_
      refine lv_iload_n hx hb dd_P_stepsToBorder_59 rfl (lv_at hl 1 rfl) ?_
      obtain ⟨hi3002, hf⟩ := qq_ckE hf
      refine va_ti (v := .int (tb_WAY_RANKS a0.toNatClampNeg)) hx hb hT_WAY_RANKS hS (qq_inE hi3002) rfl dd_P_stepsToBorder_60 ?_
      refine lv_if_ge (tgt := 68) hx hb dd_P_stepsToBorder_61 (by decide) (fun hc => ?_) (fun hc => ?_)
      · replace hf := qq_t hc hf
        refine lv_bipush (v := 7) hx hb dd_P_stepsToBorder_68 (by decide) ?_
        exact hJ70 s0 7 _ _ _ (lv_sub hl [0] rfl) hP hD hS hf
      · replace hf := qq_f hc hf
        refine lv_iload_n hx hb dd_P_stepsToBorder_64 rfl (lv_at hl 2 rfl) ?_
        refine lv_goto (tgt := 70) hx hb dd_P_stepsToBorder_65 (by decide) ?_
        exact hJ70 s0 x3 _ _ _ (lv_sub hl [0] rfl) hP hD hS hf
    · replace hf := qq_f hc hf
      refine lv_bipush (v := 7) hx hb dd_P_stepsToBorder_49 (by decide) ?_
      refine lv_iload_n hx hb dd_P_stepsToBorder_51 rfl (lv_at hl 2 rfl) ?_
      refine lv_isub hx hb dd_P_stepsToBorder_52 ?_
      refine lv_goto (tgt := 70) hx hb dd_P_stepsToBorder_53 (by decide) ?_
      exact hJ70 s0 (7 - x3) _ _ _ (lv_sub hl [0] rfl) hP hD hS hf
  rw [fn_P_stepsToBorder] at hf
  refine lv_iload_n hx hb dd_P_stepsToBorder_0 rfl (lv_at hl 1 rfl) ?_
  refine lv_bipush (v := 8) hx hb dd_P_stepsToBorder_1 (by decide) ?_
  refine lv_irem hx hb dd_P_stepsToBorder_3 (by decide) ?_
  refine lv_topi (fun v1 ev1 => ?_)
  replace hf := qq_lt ev1 hf
  refine lv_istore_n (lv' := [(2, .int v1), (0, .int a0), (1, .int a1)]) hx hb dd_P_stepsToBorder_4 rfl hl (by decide) rfl (fun ls hl => ?_)
  refine lv_iload_n hx hb dd_P_stepsToBorder_5 rfl (lv_at hl 2 rfl) ?_
  refine lv_bipush (v := 8) hx hb dd_P_stepsToBorder_6 (by decide) ?_
  refine lv_idiv hx hb dd_P_stepsToBorder_8 (by decide) ?_
  refine lv_topi (fun v2 ev2 => ?_)
  replace hf := qq_lt ev2 hf
  refine lv_istore_n (lv' := [(3, .int v2), (2, .int v1), (0, .int a0), (1, .int a1)]) hx hb dd_P_stepsToBorder_9 rfl hl (by decide) rfl (fun ls hl => ?_)
  refine va_gets (C := RR_P) (n := "WAY_FILES") (d := "[I") (ref := RR_P) hx hb hZ_WAY_FILES hS hown (hts _ mm_55) (fun _ h9 => h9) dd_P_stepsToBorder_10 ?_
  refine lv_iload_n hx hb dd_P_stepsToBorder_13 rfl (lv_at hl 2 rfl) ?_
  obtain ⟨hi3, hf⟩ := qq_ckE hf
  refine va_ti (v := .int (tb_WAY_FILES a0.toNatClampNeg)) hx hb hT_WAY_FILES hS (qq_inE hi3) rfl dd_P_stepsToBorder_14 ?_
  refine lv_if_le (tgt := 25) hx hb dd_P_stepsToBorder_15 (by decide) (fun hc => ?_) (fun hc => ?_)
  · replace hf := qq_t hc hf
    refine va_gets (C := RR_P) (n := "WAY_FILES") (d := "[I") (ref := RR_P) hx hb hZ_WAY_FILES hS hown (hts _ mm_55) (fun _ h9 => h9) dd_P_stepsToBorder_25 ?_
    refine lv_iload_n hx hb dd_P_stepsToBorder_28 rfl (lv_at hl 2 rfl) ?_
    obtain ⟨hi4, hf⟩ := qq_ckE hf
    refine va_ti (v := .int (tb_WAY_FILES a0.toNatClampNeg)) hx hb hT_WAY_FILES hS (qq_inE hi4) rfl dd_P_stepsToBorder_29 ?_
    refine lv_if_ge (tgt := 37) hx hb dd_P_stepsToBorder_30 (by decide) (fun hc => ?_) (fun hc => ?_)
    · replace hf := qq_t hc hf
      refine lv_bipush (v := 7) hx hb dd_P_stepsToBorder_37 (by decide) ?_
      exact hJ39 v2 7 _ _ _ (lv_sub hl [2, 0] rfl) hP hD hS hf
    · replace hf := qq_f hc hf
      refine lv_iload_n hx hb dd_P_stepsToBorder_33 rfl (lv_at hl 1 rfl) ?_
      refine lv_goto (tgt := 39) hx hb dd_P_stepsToBorder_34 (by decide) ?_
      exact hJ39 v2 v1 _ _ _ (lv_sub hl [2, 0] rfl) hP hD hS hf
  · replace hf := qq_f hc hf
    refine lv_bipush (v := 7) hx hb dd_P_stepsToBorder_18 (by decide) ?_
    refine lv_iload_n hx hb dd_P_stepsToBorder_20 rfl (lv_at hl 1 rfl) ?_
    refine lv_isub hx hb dd_P_stepsToBorder_21 ?_
    refine lv_goto (tgt := 39) hx hb dd_P_stepsToBorder_22 (by decide) ?_
    exact hJ39 v2 (7 - v1) _ _ _ (lv_sub hl [2, 0] rfl) hP hD hS hf
