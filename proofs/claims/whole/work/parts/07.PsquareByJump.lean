theorem dd_P_squareByJump_0 : decode bb_P_squareByJump 0 = .ok (.iload_n 1, 1) := by decide +kernel
theorem dd_P_squareByJump_1 : decode bb_P_squareByJump 1 = .ok (.bipush 8, 2) := by decide +kernel
theorem dd_P_squareByJump_3 : decode bb_P_squareByJump 3 = .ok (.irem, 1) := by decide +kernel
theorem dd_P_squareByJump_4 : decode bb_P_squareByJump 4 = .ok (.getstatic 45, 3) := by decide +kernel
theorem dd_P_squareByJump_7 : decode bb_P_squareByJump 7 = .ok (.iload_n 0, 1) := by decide +kernel
theorem dd_P_squareByJump_8 : decode bb_P_squareByJump 8 = .ok (.iaload, 1) := by decide +kernel
theorem dd_P_squareByJump_9 : decode bb_P_squareByJump 9 = .ok (.iadd, 1) := by decide +kernel
theorem dd_P_squareByJump_10 : decode bb_P_squareByJump 10 = .ok (.istore_n 2, 1) := by decide +kernel
theorem dd_P_squareByJump_11 : decode bb_P_squareByJump 11 = .ok (.iload_n 1, 1) := by decide +kernel
theorem dd_P_squareByJump_12 : decode bb_P_squareByJump 12 = .ok (.bipush 8, 2) := by decide +kernel
theorem dd_P_squareByJump_14 : decode bb_P_squareByJump 14 = .ok (.idiv, 1) := by decide +kernel
theorem dd_P_squareByJump_15 : decode bb_P_squareByJump 15 = .ok (.getstatic 48, 3) := by decide +kernel
theorem dd_P_squareByJump_18 : decode bb_P_squareByJump 18 = .ok (.iload_n 0, 1) := by decide +kernel
theorem dd_P_squareByJump_19 : decode bb_P_squareByJump 19 = .ok (.iaload, 1) := by decide +kernel
theorem dd_P_squareByJump_20 : decode bb_P_squareByJump 20 = .ok (.iadd, 1) := by decide +kernel
theorem dd_P_squareByJump_21 : decode bb_P_squareByJump 21 = .ok (.istore_n 3, 1) := by decide +kernel
theorem dd_P_squareByJump_22 : decode bb_P_squareByJump 22 = .ok (.iload_n 2, 1) := by decide +kernel
theorem dd_P_squareByJump_23 : decode bb_P_squareByJump 23 = .ok (.ifCond .lt 23, 3) := by decide +kernel
theorem dd_P_squareByJump_26 : decode bb_P_squareByJump 26 = .ok (.iload_n 2, 1) := by decide +kernel
theorem dd_P_squareByJump_27 : decode bb_P_squareByJump 27 = .ok (.bipush 7, 2) := by decide +kernel
theorem dd_P_squareByJump_29 : decode bb_P_squareByJump 29 = .ok (.if_icmp .gt 17, 3) := by decide +kernel
theorem dd_P_squareByJump_32 : decode bb_P_squareByJump 32 = .ok (.iload_n 3, 1) := by decide +kernel
theorem dd_P_squareByJump_33 : decode bb_P_squareByJump 33 = .ok (.ifCond .lt 13, 3) := by decide +kernel
theorem dd_P_squareByJump_36 : decode bb_P_squareByJump 36 = .ok (.iload_n 3, 1) := by decide +kernel
theorem dd_P_squareByJump_37 : decode bb_P_squareByJump 37 = .ok (.bipush 7, 2) := by decide +kernel
theorem dd_P_squareByJump_39 : decode bb_P_squareByJump 39 = .ok (.if_icmp .gt 7, 3) := by decide +kernel
theorem dd_P_squareByJump_42 : decode bb_P_squareByJump 42 = .ok (.iconst 1, 1) := by decide +kernel
theorem dd_P_squareByJump_43 : decode bb_P_squareByJump 43 = .ok (.goto 4, 3) := by decide +kernel
theorem dd_P_squareByJump_46 : decode bb_P_squareByJump 46 = .ok (.iconst 0, 1) := by decide +kernel
theorem dd_P_squareByJump_47 : decode bb_P_squareByJump 47 = .ok (.istore 4, 2) := by decide +kernel
theorem dd_P_squareByJump_49 : decode bb_P_squareByJump 49 = .ok (.iload 4, 2) := by decide +kernel
theorem dd_P_squareByJump_51 : decode bb_P_squareByJump 51 = .ok (.ifCond .eq 12, 3) := by decide +kernel
theorem dd_P_squareByJump_54 : decode bb_P_squareByJump 54 = .ok (.bipush 8, 2) := by decide +kernel
theorem dd_P_squareByJump_56 : decode bb_P_squareByJump 56 = .ok (.iload_n 3, 1) := by decide +kernel
theorem dd_P_squareByJump_57 : decode bb_P_squareByJump 57 = .ok (.imul, 1) := by decide +kernel
theorem dd_P_squareByJump_58 : decode bb_P_squareByJump 58 = .ok (.iload_n 2, 1) := by decide +kernel
theorem dd_P_squareByJump_59 : decode bb_P_squareByJump 59 = .ok (.iadd, 1) := by decide +kernel
theorem dd_P_squareByJump_60 : decode bb_P_squareByJump 60 = .ok (.goto 4, 3) := by decide +kernel
theorem dd_P_squareByJump_63 : decode bb_P_squareByJump 63 = .ok (.iconst (-1), 1) := by decide +kernel
theorem dd_P_squareByJump_64 : decode bb_P_squareByJump 64 = .ok (.ireturn, 1) := by decide +kernel
abbrev ty_P_squareByJump : Type := Int32
noncomputable def bk_P_squareByJump_64 (a0 : Int32) (a1 : Int32) (s0 : Int32) : Option ty_P_squareByJump := some s0
noncomputable def bk_P_squareByJump_47 (a0 : Int32) (a1 : Int32) (x2 : Int32) (x3 : Int32) (s0 : Int32) : Option ty_P_squareByJump := if s0 = 0 then (bk_P_squareByJump_64 a0 a1 (-1)) else (bk_P_squareByJump_64 a0 a1 ((8 * x3) + x2))
noncomputable def bk_P_squareByJump_46 (a0 : Int32) (a1 : Int32) (x2 : Int32) (x3 : Int32) : Option ty_P_squareByJump := bk_P_squareByJump_47 a0 a1 x2 x3 0
noncomputable def fn_P_squareByJump (a0 : Int32) (a1 : Int32) : Option ty_P_squareByJump := qq_ck (qq_in a0 8) <| qq_let ((a1 - a1 / 8 * 8) + (tb_JUMP_FILES a0.toNatClampNeg)) fun v2 => qq_ck (qq_in a0 8) <| qq_let ((a1 / 8) + (tb_JUMP_RANKS a0.toNatClampNeg)) fun v4 => if v2 < 0 then (bk_P_squareByJump_46 a0 a1 v2 v4) else (if 7 < v2 then (bk_P_squareByJump_46 a0 a1 v2 v4) else (if v4 < 0 then (bk_P_squareByJump_46 a0 a1 v2 v4) else (if 7 < v4 then (bk_P_squareByJump_46 a0 a1 v2 v4) else (bk_P_squareByJump_47 a0 a1 v2 v4 1))))
abbrev rm_P_squareByJump : Room := { frames := 0, cells := 0, slots := 0, locals := 0 }
set_option maxHeartbeats 4000000 in
set_option maxRecDepth 100000 in
theorem ct_P_squareByJump (l : Launch) (dC : Nat → ClassId) (dI : Nat → Nat → Nat) (cI cL cR : ClassId) (a0 : Int32) (a1 : Int32) {rr : Int32} (hf : fn_P_squareByJump a0 a1 = some rr) : qq_det l yy_P_squareByJump (ww_of yy_P_squareByJump bb_P_squareByJump 5 (some .int)) rm_P_squareByJump (dC, dI) (qq_ty cI cL cR) [.int a0, .int a1] [] (some (.int rr)) [] := by
  refine qq_of (own := RR_P) (by decide) rfl (Nat.le_of_ble_eq_true rfl) ?_
  intro p e s m below meth c A Q ls hx hb hml hr hlocks hown hts hK hA hT hN hP hD hS hl hQ
  have hl : lv_has ls 5 [(0, .int a0), (1, .int a1)] := hl
  obtain ⟨t_JUMP_FILES, hZ_JUMP_FILES, hT_JUMP_FILES⟩ := qq_T4 hT
  obtain ⟨t_JUMP_RANKS, hZ_JUMP_RANKS, hT_JUMP_RANKS⟩ := qq_T5 hT
  have hJ64 : ∀ (s0 : Int32) (H : Heap) (locs : List Loc) (ls : Array Slot), lv_has ls 5 [] → va_P (dC, dI) classes [] H → va_D A [] → va_S A s.heap H locs → bk_P_squareByJump_64 a0 a1 s0 = some rr → W p l e rm_P_squareByJump s m ([.int a0, .int a1] : List Value).toArray below meth c H locs 0 0 Q (F0 m 64 ls [.int s0]) := by
    intro s0 H locs ls hl hP hD hS hf
    rw [bk_P_squareByJump_64] at hf
    cases hf
    exact qq_iret hx hb hr hlocks hQ hP hD hK hS dd_P_squareByJump_64
  have hJ47 : ∀ (x2 : Int32) (x3 : Int32) (s0 : Int32) (H : Heap) (locs : List Loc) (ls : Array Slot), lv_has ls 5 [(2, .int x2), (3, .int x3)] → va_P (dC, dI) classes [] H → va_D A [] → va_S A s.heap H locs → bk_P_squareByJump_47 a0 a1 x2 x3 s0 = some rr → W p l e rm_P_squareByJump s m ([.int a0, .int a1] : List Value).toArray below meth c H locs 0 0 Q (F0 m 47 ls [.int s0]) := by
    intro x2 x3 s0 H locs ls hl hP hD hS hf
    rw [bk_P_squareByJump_47] at hf
    refine lv_istore (lv' := [(4, .int s0), (2, .int x2), (3, .int x3)]) hx hb dd_P_squareByJump_47 hl (by decide) rfl (fun ls hl => ?_)
    refine lv_iload hx hb dd_P_squareByJump_49 (lv_at hl 0 rfl) ?_
    refine lv_if_eq (tgt := 63) hx hb dd_P_squareByJump_51 (by decide) (fun hc => ?_) (fun hc => ?_)
    · replace hf := qq_t hc hf
      refine lv_iconst (v := (-1)) hx hb dd_P_squareByJump_63 (by decide) ?_
      exact hJ64 (-1) _ _ _ (lv_sub hl [] rfl) hP hD hS hf
    · replace hf := qq_f hc hf
      refine lv_bipush (v := 8) hx hb dd_P_squareByJump_54 (by decide) ?_
      refine lv_iload_n hx hb dd_P_squareByJump_56 rfl (lv_at hl 2 rfl) ?_
      refine lv_imul hx hb dd_P_squareByJump_57 ?_
      refine lv_iload_n hx hb dd_P_squareByJump_58 rfl (lv_at hl 1 rfl) ?_
      refine lv_iadd hx hb dd_P_squareByJump_59 ?_
      refine lv_goto (tgt := 64) hx hb dd_P_squareByJump_60 (by decide) ?_
      exact hJ64 ((8 * x3) + x2) _ _ _ (lv_sub hl [] rfl) hP hD hS hf
  have hJ46 : ∀ (x2 : Int32) (x3 : Int32) (H : Heap) (locs : List Loc) (ls : Array Slot), lv_has ls 5 [(2, .int x2), (3, .int x3)] → va_P (dC, dI) classes [] H → va_D A [] → va_S A s.heap H locs → bk_P_squareByJump_46 a0 a1 x2 x3 = some rr → W p l e rm_P_squareByJump s m ([.int a0, .int a1] : List Value).toArray below meth c H locs 0 0 Q (F0 m 46 ls []) := by
    intro x2 x3 H locs ls hl hP hD hS hf
    rw [bk_P_squareByJump_46] at hf
    refine lv_iconst (v := 0) hx hb dd_P_squareByJump_46 (by decide) ?_
    exact hJ47 x2 x3 0 _ _ _ (lv_sub hl [0, 1] rfl) hP hD hS hf
  rw [fn_P_squareByJump] at hf
  refine lv_iload_n hx hb dd_P_squareByJump_0 rfl (lv_at hl 1 rfl) ?_
  refine lv_bipush (v := 8) hx hb dd_P_squareByJump_1 (by decide) ?_
  refine lv_irem hx hb dd_P_squareByJump_3 (by decide) ?_
  refine va_gets (C := RR_P) (n := "JUMP_FILES") (d := "[I") (ref := RR_P) hx hb hZ_JUMP_FILES hS hown (hts _ mm_64) (fun _ h9 => h9) dd_P_squareByJump_4 ?_
  refine lv_iload_n hx hb dd_P_squareByJump_7 rfl (lv_at hl 0 rfl) ?_
  obtain ⟨hi1, hf⟩ := qq_ckE hf
  refine va_ti (v := .int (tb_JUMP_FILES a0.toNatClampNeg)) hx hb hT_JUMP_FILES hS (qq_inE hi1) rfl dd_P_squareByJump_8 ?_
  refine lv_iadd hx hb dd_P_squareByJump_9 ?_
  refine lv_topi (fun v2 ev2 => ?_)
  replace hf := qq_lt ev2 hf
  refine lv_istore_n (lv' := [(2, .int v2), (0, .int a0), (1, .int a1)]) hx hb dd_P_squareByJump_10 rfl hl (by decide) rfl (fun ls hl => ?_)
  refine lv_iload_n hx hb dd_P_squareByJump_11 rfl (lv_at hl 2 rfl) ?_
  refine lv_bipush (v := 8) hx hb dd_P_squareByJump_12 (by decide) ?_
  refine lv_idiv hx hb dd_P_squareByJump_14 (by decide) ?_
  refine va_gets (C := RR_P) (n := "JUMP_RANKS") (d := "[I") (ref := RR_P) hx hb hZ_JUMP_RANKS hS hown (hts _ mm_65) (fun _ h9 => h9) dd_P_squareByJump_15 ?_
  refine lv_iload_n hx hb dd_P_squareByJump_18 rfl (lv_at hl 1 rfl) ?_
  obtain ⟨hi3, hf⟩ := qq_ckE hf
  refine va_ti (v := .int (tb_JUMP_RANKS a0.toNatClampNeg)) hx hb hT_JUMP_RANKS hS (qq_inE hi3) rfl dd_P_squareByJump_19 ?_
  refine lv_iadd hx hb dd_P_squareByJump_20 ?_
  refine lv_topi (fun v4 ev4 => ?_)
  replace hf := qq_lt ev4 hf
  refine lv_istore_n (lv' := [(3, .int v4), (2, .int v2), (0, .int a0), (1, .int a1)]) hx hb dd_P_squareByJump_21 rfl hl (by decide) rfl (fun ls hl => ?_)
  refine lv_iload_n hx hb dd_P_squareByJump_22 rfl (lv_at hl 1 rfl) ?_
  refine lv_if_lt (tgt := 46) hx hb dd_P_squareByJump_23 (by decide) (fun hc => ?_) (fun hc => ?_)
  · replace hf := qq_t hc hf
    exact hJ46 v2 v4 _ _ _ (lv_sub hl [1, 0] rfl) hP hD hS hf
  · replace hf := qq_f hc hf
    refine lv_iload_n hx hb dd_P_squareByJump_26 rfl (lv_at hl 1 rfl) ?_
    refine lv_bipush (v := 7) hx hb dd_P_squareByJump_27 (by decide) ?_
    refine lv_icmp_gt (tgt := 46) hx hb dd_P_squareByJump_29 (by decide) (fun hc => ?_) (fun hc => ?_)
    · replace hf := qq_t hc hf
      exact hJ46 v2 v4 _ _ _ (lv_sub hl [1, 0] rfl) hP hD hS hf
    · replace hf := qq_f hc hf
      refine lv_iload_n hx hb dd_P_squareByJump_32 rfl (lv_at hl 0 rfl) ?_
      refine lv_if_lt (tgt := 46) hx hb dd_P_squareByJump_33 (by decide) (fun hc => ?_) (fun hc => ?_)
      · replace hf := qq_t hc hf
        exact hJ46 v2 v4 _ _ _ (lv_sub hl [1, 0] rfl) hP hD hS hf
      · replace hf := qq_f hc hf
        refine lv_iload_n hx hb dd_P_squareByJump_36 rfl (lv_at hl 0 rfl) ?_
        refine lv_bipush (v := 7) hx hb dd_P_squareByJump_37 (by decide) ?_
        refine lv_icmp_gt (tgt := 46) hx hb dd_P_squareByJump_39 (by decide) (fun hc => ?_) (fun hc => ?_)
        · replace hf := qq_t hc hf
          exact hJ46 v2 v4 _ _ _ (lv_sub hl [1, 0] rfl) hP hD hS hf
        · replace hf := qq_f hc hf
          refine lv_iconst (v := 1) hx hb dd_P_squareByJump_42 (by decide) ?_
          refine lv_goto (tgt := 47) hx hb dd_P_squareByJump_43 (by decide) ?_
          exact hJ47 v2 v4 1 _ _ _ (lv_sub hl [1, 0] rfl) hP hD hS hf
theorem dd_P_targetsOfKnight_0 : decode bb_P_targetsOfKnight 0 = .ok (.lconst 0, 1) := by decide +kernel
theorem dd_P_targetsOfKnight_1 : decode bb_P_targetsOfKnight 1 = .ok (.lstore_n 2, 1) := by decide +kernel
theorem dd_P_targetsOfKnight_2 : decode bb_P_targetsOfKnight 2 = .ok (.iconst 0, 1) := by decide +kernel
theorem dd_P_targetsOfKnight_3 : decode bb_P_targetsOfKnight 3 = .ok (.istore 4, 2) := by decide +kernel
theorem dd_P_targetsOfKnight_5 : decode bb_P_targetsOfKnight 5 = .ok (.iload 4, 2) := by decide +kernel
theorem dd_P_targetsOfKnight_7 : decode bb_P_targetsOfKnight 7 = .ok (.bipush 8, 2) := by decide +kernel
theorem dd_P_targetsOfKnight_9 : decode bb_P_targetsOfKnight 9 = .ok (.if_icmp .ge 49, 3) := by decide +kernel
theorem dd_P_targetsOfKnight_12 : decode bb_P_targetsOfKnight 12 = .ok (.iload 4, 2) := by decide +kernel
theorem dd_P_targetsOfKnight_14 : decode bb_P_targetsOfKnight 14 = .ok (.iload_n 1, 1) := by decide +kernel
theorem dd_P_targetsOfKnight_15 : decode bb_P_targetsOfKnight 15 = .ok (.invokestatic 36, 3) := by decide +kernel
theorem dd_P_targetsOfKnight_18 : decode bb_P_targetsOfKnight 18 = .ok (.istore 5, 2) := by decide +kernel
theorem dd_P_targetsOfKnight_20 : decode bb_P_targetsOfKnight 20 = .ok (.iload 5, 2) := by decide +kernel
theorem dd_P_targetsOfKnight_22 : decode bb_P_targetsOfKnight 22 = .ok (.iconst (-1), 1) := by decide +kernel
theorem dd_P_targetsOfKnight_23 : decode bb_P_targetsOfKnight 23 = .ok (.if_icmp .eq 29, 3) := by decide +kernel
theorem dd_P_targetsOfKnight_26 : decode bb_P_targetsOfKnight 26 = .ok (.aload_n 0, 1) := by decide +kernel
theorem dd_P_targetsOfKnight_27 : decode bb_P_targetsOfKnight 27 = .ok (.getfield 9, 3) := by decide +kernel
theorem dd_P_targetsOfKnight_30 : decode bb_P_targetsOfKnight 30 = .ok (.iload 5, 2) := by decide +kernel
theorem dd_P_targetsOfKnight_32 : decode bb_P_targetsOfKnight 32 = .ok (.iaload, 1) := by decide +kernel
theorem dd_P_targetsOfKnight_33 : decode bb_P_targetsOfKnight 33 = .ok (.ifCond .eq 12, 3) := by decide +kernel
theorem dd_P_targetsOfKnight_36 : decode bb_P_targetsOfKnight 36 = .ok (.aload_n 0, 1) := by decide +kernel
theorem dd_P_targetsOfKnight_37 : decode bb_P_targetsOfKnight 37 = .ok (.iload 5, 2) := by decide +kernel
theorem dd_P_targetsOfKnight_39 : decode bb_P_targetsOfKnight 39 = .ok (.invokevirtual 128, 3) := by decide +kernel
theorem dd_P_targetsOfKnight_42 : decode bb_P_targetsOfKnight 42 = .ok (.ifCond .eq 10, 3) := by decide +kernel
theorem dd_P_targetsOfKnight_45 : decode bb_P_targetsOfKnight 45 = .ok (.lload_n 2, 1) := by decide +kernel
theorem dd_P_targetsOfKnight_46 : decode bb_P_targetsOfKnight 46 = .ok (.lconst 1, 1) := by decide +kernel
theorem dd_P_targetsOfKnight_47 : decode bb_P_targetsOfKnight 47 = .ok (.iload 5, 2) := by decide +kernel
theorem dd_P_targetsOfKnight_49 : decode bb_P_targetsOfKnight 49 = .ok (.lshl, 1) := by decide +kernel
theorem dd_P_targetsOfKnight_50 : decode bb_P_targetsOfKnight 50 = .ok (.lor, 1) := by decide +kernel
theorem dd_P_targetsOfKnight_51 : decode bb_P_targetsOfKnight 51 = .ok (.lstore_n 2, 1) := by decide +kernel
theorem dd_P_targetsOfKnight_52 : decode bb_P_targetsOfKnight 52 = .ok (.iinc 4 1, 3) := by decide +kernel
theorem dd_P_targetsOfKnight_55 : decode bb_P_targetsOfKnight 55 = .ok (.goto (-50), 3) := by decide +kernel
theorem dd_P_targetsOfKnight_58 : decode bb_P_targetsOfKnight 58 = .ok (.lload_n 2, 1) := by decide +kernel
theorem dd_P_targetsOfKnight_59 : decode bb_P_targetsOfKnight 59 = .ok (.lreturn, 1) := by decide +kernel
abbrev ty_P_targetsOfKnight : Type := Int64
noncomputable def bk_P_targetsOfKnight_52 (sd : Int32) (sq : Nat → Int32) (a1 : Int32) (k5 : Int64 → Int32 → Option ty_P_targetsOfKnight) (x2 : Int64) (x4 : Int32) : Option ty_P_targetsOfKnight := qq_let (x4 + 1) fun v1001 => k5 x2 v1001
noncomputable def bk_P_targetsOfKnight_45 (sd : Int32) (sq : Nat → Int32) (a1 : Int32) (k5 : Int64 → Int32 → Option ty_P_targetsOfKnight) (x2 : Int64) (x4 : Int32) (x5 : Int32) : Option ty_P_targetsOfKnight := qq_let (x2 ||| ((1 : Int64) <<< (x5.toInt64 &&& 63))) fun v2001 => bk_P_targetsOfKnight_52 sd sq a1 k5 v2001 x4
noncomputable def lo_P_targetsOfKnight_5 (sd : Int32) (sq : Nat → Int32) (a1 : Int32) : Nat → Int64 → Int32 → Option ty_P_targetsOfKnight
  | 0, _, _ => none
  | n + 1, x2, x4 => if 8 ≤ x4 then (some x2) else ((fn_P_squareByJump x4 a1).bind fun r3001 => if r3001 = (-1) then (bk_P_targetsOfKnight_52 sd sq a1 (lo_P_targetsOfKnight_5 sd sq a1 n) x2 x4) else (qq_ck (qq_in r3001 64) <| if (sq r3001.toNatClampNeg) = 0 then (bk_P_targetsOfKnight_45 sd sq a1 (lo_P_targetsOfKnight_5 sd sq a1 n) x2 x4 r3001) else ((fn_P_isOther sd sq r3001).bind fun r3003 => if r3003 = 0 then (bk_P_targetsOfKnight_52 sd sq a1 (lo_P_targetsOfKnight_5 sd sq a1 n) x2 x4) else (bk_P_targetsOfKnight_45 sd sq a1 (lo_P_targetsOfKnight_5 sd sq a1 n) x2 x4 r3001))))
theorem lo_P_targetsOfKnight_5_z (sd : Int32) (sq : Nat → Int32) (a1 : Int32) (x2 : Int64) (x4 : Int32) : lo_P_targetsOfKnight_5 sd sq a1 0 x2 x4 = none := rfl
theorem lo_P_targetsOfKnight_5_s (sd : Int32) (sq : Nat → Int32) (a1 : Int32) (x2 : Int64) (x4 : Int32) (n : Nat) : lo_P_targetsOfKnight_5 sd sq a1 (n + 1) x2 x4 = (if 8 ≤ x4 then (some x2) else ((fn_P_squareByJump x4 a1).bind fun r3001 => if r3001 = (-1) then (bk_P_targetsOfKnight_52 sd sq a1 (lo_P_targetsOfKnight_5 sd sq a1 n) x2 x4) else (qq_ck (qq_in r3001 64) <| if (sq r3001.toNatClampNeg) = 0 then (bk_P_targetsOfKnight_45 sd sq a1 (lo_P_targetsOfKnight_5 sd sq a1 n) x2 x4 r3001) else ((fn_P_isOther sd sq r3001).bind fun r3003 => if r3003 = 0 then (bk_P_targetsOfKnight_52 sd sq a1 (lo_P_targetsOfKnight_5 sd sq a1 n) x2 x4) else (bk_P_targetsOfKnight_45 sd sq a1 (lo_P_targetsOfKnight_5 sd sq a1 n) x2 x4 r3001))))) := rfl
noncomputable def fn_P_targetsOfKnight (sd : Int32) (sq : Nat → Int32) (a1 : Int32) : Option ty_P_targetsOfKnight := qq_let (0 : Int64) fun v1 => lo_P_targetsOfKnight_5 sd sq a1 qq_FU v1 0
abbrev rm_P_targetsOfKnight : Room := { frames := 1, cells := 0, slots := 0, locals := 24 }
set_option maxHeartbeats 4000000 in
set_option maxRecDepth 100000 in
theorem ct_P_targetsOfKnight (l : Launch) (dC : Nat → ClassId) (dI : Nat → Nat → Nat) (cI cL cR : ClassId) (oP osq okg : Nat) (sd : Int32) (rt : Int32) (ps : Int32) (sq : Nat → Int32) (kg : Nat → Int32) (a1 : Int32) {rr : Int64} (hf : fn_P_targetsOfKnight sd sq a1 = some rr) : qq_det l yy_P_targetsOfKnight (ww_of yy_P_targetsOfKnight bb_P_targetsOfKnight 6 (some .long)) rm_P_targetsOfKnight (dC, dI) (qq_ty cI cL cR) [.ref oP, .int a1] [(oP, .inr (1, [.ref osq, .ref okg, .int sd, .int rt, .int ps])), (osq, .inl (cI, 64, .inl sq)), (okg, .inl (cI, 2, .inl kg))] (some (.long rr)) [(oP, .inr (1, [.ref osq, .ref okg, .int sd, .int rt, .int ps])), (osq, .inl (cI, 64, .inl sq)), (okg, .inl (cI, 2, .inl kg))] := by
  refine qq_of (own := RR_P) (by decide) rfl (Nat.le_of_ble_eq_true rfl) ?_
  intro p e s m below meth c A Q ls hx hb hml hr hlocks hown hts hK hA hT hN hP hD hS hl hQ
  have hl : lv_has ls 6 [(0, .ref oP), (1, .int a1)] := hl
  have hL5 : ∀ (n5 : Nat) (x2 : Int64) (x4 : Int32) (H : Heap) (locs : List Loc) (ls : Array Slot), lv_has ls 6 [(0, .ref oP), (1, .int a1), (2, .long x2), (4, .int x4)] → va_P (dC, dI) classes [(oP, .inr (1, [.ref osq, .ref okg, .int sd, .int rt, .int ps])), (osq, .inl (cI, 64, .inl sq)), (okg, .inl (cI, 2, .inl kg))] H → va_D A [(oP, .inr (1, [.ref osq, .ref okg, .int sd, .int rt, .int ps])), (osq, .inl (cI, 64, .inl sq)), (okg, .inl (cI, 2, .inl kg))] → va_S A s.heap H locs → lo_P_targetsOfKnight_5 sd sq a1 n5 x2 x4 = some rr → W p l e rm_P_targetsOfKnight s m ([.ref oP, .int a1] : List Value).toArray below meth c H locs 0 0 Q (F0 m 5 ls []) := by
    intro n5
    induction n5 with
    | zero => exact fun x2 x4 H locs ls hl hP hD hS hf => absurd hf (by rw [lo_P_targetsOfKnight_5_z]; exact fun h => by cases h)
    | succ n5 ih5 =>
      have hJ52 : ∀ (x2 : Int64) (x4 : Int32) (H : Heap) (locs : List Loc) (ls : Array Slot), lv_has ls 6 [(0, .ref oP), (1, .int a1), (2, .long x2), (4, .int x4)] → va_P (dC, dI) classes [(oP, .inr (1, [.ref osq, .ref okg, .int sd, .int rt, .int ps])), (osq, .inl (cI, 64, .inl sq)), (okg, .inl (cI, 2, .inl kg))] H → va_D A [(oP, .inr (1, [.ref osq, .ref okg, .int sd, .int rt, .int ps])), (osq, .inl (cI, 64, .inl sq)), (okg, .inl (cI, 2, .inl kg))] → va_S A s.heap H locs → bk_P_targetsOfKnight_52 sd sq a1 (lo_P_targetsOfKnight_5 sd sq a1 n5) x2 x4 = some rr → W p l e rm_P_targetsOfKnight s m ([.ref oP, .int a1] : List Value).toArray below meth c H locs 0 0 Q (F0 m 52 ls []) := by
        intro x2 x4 H locs ls hl hP hD hS hf
        rw [bk_P_targetsOfKnight_52] at hf
        obtain ⟨v1001, ev1001⟩ : ∃ z, z = x4 + 1 := ⟨_, rfl⟩
        replace hf := qq_lt ev1001 hf
        refine lv_iinc (k := 3) (v := v1001) (lv' := [(4, .int v1001), (0, .ref oP), (1, .int a1), (2, .long x2)]) hx hb dd_P_targetsOfKnight_52 hl rfl (by rw [ev1001]; exact congrArg _ (by decide)) (by decide) rfl (fun ls hl => ?_)
        refine lv_goto (tgt := 5) hx hb dd_P_targetsOfKnight_55 (by decide) ?_
        exact ih5 x2 v1001 _ _ _ (lv_sub hl [1, 2, 3, 0] rfl) hP hD hS hf
      have hJ45 : ∀ (x2 : Int64) (x4 : Int32) (x5 : Int32) (H : Heap) (locs : List Loc) (ls : Array Slot), lv_has ls 6 [(0, .ref oP), (1, .int a1), (2, .long x2), (4, .int x4), (5, .int x5)] → va_P (dC, dI) classes [(oP, .inr (1, [.ref osq, .ref okg, .int sd, .int rt, .int ps])), (osq, .inl (cI, 64, .inl sq)), (okg, .inl (cI, 2, .inl kg))] H → va_D A [(oP, .inr (1, [.ref osq, .ref okg, .int sd, .int rt, .int ps])), (osq, .inl (cI, 64, .inl sq)), (okg, .inl (cI, 2, .inl kg))] → va_S A s.heap H locs → bk_P_targetsOfKnight_45 sd sq a1 (lo_P_targetsOfKnight_5 sd sq a1 n5) x2 x4 x5 = some rr → W p l e rm_P_targetsOfKnight s m ([.ref oP, .int a1] : List Value).toArray below meth c H locs 0 0 Q (F0 m 45 ls []) := by
        intro x2 x4 x5 H locs ls hl hP hD hS hf
        rw [bk_P_targetsOfKnight_45] at hf
        refine lv_lload_n hx hb dd_P_targetsOfKnight_45 rfl (lv_at hl 2 rfl) ?_
        refine lv_lconst (v := 1) hx hb dd_P_targetsOfKnight_46 (by decide) ?_
        refine lv_iload hx hb dd_P_targetsOfKnight_47 (lv_at hl 4 rfl) ?_
        refine lv_lshl (v := ((1 : Int64) <<< (x5.toInt64 &&& 63))) hx hb dd_P_targetsOfKnight_49 rfl ?_
        refine lv_lor hx hb dd_P_targetsOfKnight_50 ?_
        refine lv_topl (fun v2001 ev2001 => ?_)
        replace hf := qq_lt ev2001 hf
        refine lv_lstore_n (lv' := [(2, .long v2001), (0, .ref oP), (1, .int a1), (4, .int x4), (5, .int x5)]) hx hb dd_P_targetsOfKnight_51 rfl hl (by decide) rfl (fun ls hl => ?_)
        exact hJ52 v2001 x4 _ _ _ (lv_sub hl [1, 2, 0, 3] rfl) hP hD hS hf
      intro x2 x4 H locs ls hl hP hD hS hf
      rw [lo_P_targetsOfKnight_5_s] at hf
      refine lv_iload hx hb dd_P_targetsOfKnight_5 (lv_at hl 3 rfl) ?_
      refine lv_bipush (v := 8) hx hb dd_P_targetsOfKnight_7 (by decide) ?_
      refine lv_icmp_ge (tgt := 58) hx hb dd_P_targetsOfKnight_9 (by decide) (fun hc => ?_) (fun hc => ?_)
      · replace hf := qq_t hc hf
        refine lv_lload_n hx hb dd_P_targetsOfKnight_58 rfl (lv_at hl 2 rfl) ?_
        cases hf
        exact qq_lret hx hb hr hlocks hQ hP hD hK hS dd_P_targetsOfKnight_59
      · replace hf := qq_f hc hf
        refine lv_iload hx hb dd_P_targetsOfKnight_12 (lv_at hl 3 rfl) ?_
        refine lv_iload_n hx hb dd_P_targetsOfKnight_14 rfl (lv_at hl 1 rfl) ?_
        obtain ⟨r3001, hy3001, hf⟩ := qq_bd hf
        refine qq_S (As := [.int x4, .int a1]) (rest := []) (wr := [(oP, .inr (1, [.ref osq, .ref okg, .int sd, .int rt, .int ps])), (osq, .inl (cI, 64, .inl sq)), (okg, .inl (cI, 2, .inl kg))]) (wf := [(oP, .inr (1, [.ref osq, .ref okg, .int sd, .int rt, .int ps])), (osq, .inl (cI, 64, .inl sq)), (okg, .inl (cI, 2, .inl kg))]) ⟨hx, hb, hml, hown, hts⟩ (ct_P_squareByJump l dC dI cI cL cR x4 a1 hy3001) mm_67 mm_68 mm_66 mm_15 hd_P_squareByJump (by decide) qq_00 hP hD hK hS hA hT hN [] [0, 1, 2] [0, 1, 2] rfl rfl rfl (by decide) rfl hl.1 rfl (Nat.le_of_ble_eq_true rfl) dd_P_targetsOfKnight_15 (fun H locs hP hD hS => ?_)
        refine W.eq (g2 := F0 m 18 ls [.int r3001]) rfl ?_
        refine lv_istore (lv' := [(5, .int r3001), (0, .ref oP), (1, .int a1), (2, .long x2), (4, .int x4)]) hx hb dd_P_targetsOfKnight_18 hl (by decide) rfl (fun ls hl => ?_)
        refine lv_iload hx hb dd_P_targetsOfKnight_20 (lv_at hl 0 rfl) ?_
        refine lv_iconst (v := (-1)) hx hb dd_P_targetsOfKnight_22 (by decide) ?_
        refine lv_icmp_eq (tgt := 52) hx hb dd_P_targetsOfKnight_23 (by decide) (fun hc => ?_) (fun hc => ?_)
        · replace hf := qq_t hc hf
          exact hJ52 x2 x4 _ _ _ (lv_sub hl [1, 2, 3, 4] rfl) hP hD hS hf
        · replace hf := qq_f hc hf
          refine lv_aload_n hx hb dd_P_targetsOfKnight_26 rfl (lv_at hl 1 rfl) ?_
          refine va_get (D := (dC, dI)) (ci := 1) (v := .ref osq) (C := RR_P) (T := FF_P) (N := 5) hx hb hts uu_P hown hK hP 0 rfl rfl 0 (by decide) (hts _ mm_11) (fun _ h9 => h9) rfl dd_P_targetsOfKnight_27 ?_
          refine lv_iload hx hb dd_P_targetsOfKnight_30 (lv_at hl 0 rfl) ?_
          obtain ⟨hi3002, hf⟩ := qq_ckE hf
          refine va_iald (D := (dC, dI)) (f := sq) (n := 64) (cA := cI) hx hb hK hP 1 0 rfl rfl (qq_inE hi3002) dd_P_targetsOfKnight_32 ?_
          refine lv_if_eq (tgt := 45) hx hb dd_P_targetsOfKnight_33 (by decide) (fun hc => ?_) (fun hc => ?_)
          · replace hf := qq_t hc hf
            exact hJ45 x2 x4 r3001 _ _ _ (lv_sub hl [1, 2, 3, 4, 0] rfl) hP hD hS hf
          · replace hf := qq_f hc hf
            refine lv_aload_n hx hb dd_P_targetsOfKnight_36 rfl (lv_at hl 1 rfl) ?_
            refine lv_iload hx hb dd_P_targetsOfKnight_37 (lv_at hl 0 rfl) ?_
            obtain ⟨r3003, hy3003, hf⟩ := qq_bd hf
            refine qq_V (As := [.int r3001]) (rest := []) (wr := []) (wf := [(oP, .inr (1, [.ref osq, .ref okg, .int sd, .int rt, .int ps])), (osq, .inl (cI, 64, .inl sq)), (okg, .inl (cI, 2, .inl kg))]) ⟨hx, hb, hml, hown, hts⟩ (ct_P_isOther l dC dI cI cL cR oP osq okg sd rt ps sq kg r3001 hy3003) mm_16 mm_17 mm_18 mm_14 mm_15 hd_P_isOther (by decide) qq_00 hP hD hK hS hA hT hN (q0 := 0) (ci := 1) rfl rfl [0, 1, 2] [] [0, 1, 2] rfl rfl rfl (by decide) rfl hl.1 rfl (Nat.le_of_ble_eq_true rfl) dd_P_targetsOfKnight_39 (fun H locs hP hD hS => ?_)
            refine W.eq (g2 := F0 m 42 ls [.int r3003]) rfl ?_
            refine lv_if_eq (tgt := 52) hx hb dd_P_targetsOfKnight_42 (by decide) (fun hc => ?_) (fun hc => ?_)
            · replace hf := qq_t hc hf
              exact hJ52 x2 x4 _ _ _ (lv_sub hl [1, 2, 3, 4] rfl) hP hD hS hf
            · replace hf := qq_f hc hf
              exact hJ45 x2 x4 r3001 _ _ _ (lv_sub hl [1, 2, 3, 4, 0] rfl) hP hD hS hf
  rw [fn_P_targetsOfKnight] at hf
  refine lv_lconst (v := 0) hx hb dd_P_targetsOfKnight_0 (by decide) ?_
  refine lv_topl (fun v1 ev1 => ?_)
  replace hf := qq_lt ev1 hf
  refine lv_lstore_n (lv' := [(2, .long v1), (0, .ref oP), (1, .int a1)]) hx hb dd_P_targetsOfKnight_1 rfl hl (by decide) rfl (fun ls hl => ?_)
  refine lv_iconst (v := 0) hx hb dd_P_targetsOfKnight_2 (by decide) ?_
  refine lv_istore (lv' := [(4, .int 0), (2, .long v1), (0, .ref oP), (1, .int a1)]) hx hb dd_P_targetsOfKnight_3 hl (by decide) rfl (fun ls hl => ?_)
  exact hL5 qq_FU v1 0 _ _ _ (lv_sub hl [2, 3, 1, 0] rfl) hP hD hS hf
theorem dd_P_targetsOfPiece_0 : decode bb_P_targetsOfPiece 0 = .ok (.iload_n 1, 1) := by decide +kernel
theorem dd_P_targetsOfPiece_1 : decode bb_P_targetsOfPiece 1 = .ok (.tableswitch 69 2 5 #[31, 37, 48, 58], 31) := by decide +kernel
theorem dd_P_targetsOfPiece_32 : decode bb_P_targetsOfPiece 32 = .ok (.aload_n 0, 1) := by decide +kernel
theorem dd_P_targetsOfPiece_33 : decode bb_P_targetsOfPiece 33 = .ok (.iload_n 2, 1) := by decide +kernel
theorem dd_P_targetsOfPiece_34 : decode bb_P_targetsOfPiece 34 = .ok (.invokevirtual 116, 3) := by decide +kernel
theorem dd_P_targetsOfPiece_37 : decode bb_P_targetsOfPiece 37 = .ok (.lreturn, 1) := by decide +kernel
theorem dd_P_targetsOfPiece_38 : decode bb_P_targetsOfPiece 38 = .ok (.aload_n 0, 1) := by decide +kernel
theorem dd_P_targetsOfPiece_39 : decode bb_P_targetsOfPiece 39 = .ok (.iload_n 2, 1) := by decide +kernel
theorem dd_P_targetsOfPiece_40 : decode bb_P_targetsOfPiece 40 = .ok (.iconst 4, 1) := by decide +kernel
theorem dd_P_targetsOfPiece_41 : decode bb_P_targetsOfPiece 41 = .ok (.bipush 8, 2) := by decide +kernel
theorem dd_P_targetsOfPiece_43 : decode bb_P_targetsOfPiece 43 = .ok (.bipush 7, 2) := by decide +kernel
theorem dd_P_targetsOfPiece_45 : decode bb_P_targetsOfPiece 45 = .ok (.invokevirtual 119, 3) := by decide +kernel
theorem dd_P_targetsOfPiece_48 : decode bb_P_targetsOfPiece 48 = .ok (.lreturn, 1) := by decide +kernel
theorem dd_P_targetsOfPiece_49 : decode bb_P_targetsOfPiece 49 = .ok (.aload_n 0, 1) := by decide +kernel
theorem dd_P_targetsOfPiece_50 : decode bb_P_targetsOfPiece 50 = .ok (.iload_n 2, 1) := by decide +kernel
theorem dd_P_targetsOfPiece_51 : decode bb_P_targetsOfPiece 51 = .ok (.iconst 0, 1) := by decide +kernel
theorem dd_P_targetsOfPiece_52 : decode bb_P_targetsOfPiece 52 = .ok (.iconst 4, 1) := by decide +kernel
theorem dd_P_targetsOfPiece_53 : decode bb_P_targetsOfPiece 53 = .ok (.bipush 7, 2) := by decide +kernel
theorem dd_P_targetsOfPiece_55 : decode bb_P_targetsOfPiece 55 = .ok (.invokevirtual 119, 3) := by decide +kernel
theorem dd_P_targetsOfPiece_58 : decode bb_P_targetsOfPiece 58 = .ok (.lreturn, 1) := by decide +kernel
theorem dd_P_targetsOfPiece_59 : decode bb_P_targetsOfPiece 59 = .ok (.aload_n 0, 1) := by decide +kernel
theorem dd_P_targetsOfPiece_60 : decode bb_P_targetsOfPiece 60 = .ok (.iload_n 2, 1) := by decide +kernel
theorem dd_P_targetsOfPiece_61 : decode bb_P_targetsOfPiece 61 = .ok (.iconst 0, 1) := by decide +kernel
theorem dd_P_targetsOfPiece_62 : decode bb_P_targetsOfPiece 62 = .ok (.bipush 8, 2) := by decide +kernel
theorem dd_P_targetsOfPiece_64 : decode bb_P_targetsOfPiece 64 = .ok (.bipush 7, 2) := by decide +kernel
theorem dd_P_targetsOfPiece_66 : decode bb_P_targetsOfPiece 66 = .ok (.invokevirtual 119, 3) := by decide +kernel
theorem dd_P_targetsOfPiece_69 : decode bb_P_targetsOfPiece 69 = .ok (.lreturn, 1) := by decide +kernel
theorem dd_P_targetsOfPiece_70 : decode bb_P_targetsOfPiece 70 = .ok (.aload_n 0, 1) := by decide +kernel
theorem dd_P_targetsOfPiece_71 : decode bb_P_targetsOfPiece 71 = .ok (.iload_n 2, 1) := by decide +kernel
theorem dd_P_targetsOfPiece_72 : decode bb_P_targetsOfPiece 72 = .ok (.iconst 0, 1) := by decide +kernel
theorem dd_P_targetsOfPiece_73 : decode bb_P_targetsOfPiece 73 = .ok (.bipush 8, 2) := by decide +kernel
theorem dd_P_targetsOfPiece_75 : decode bb_P_targetsOfPiece 75 = .ok (.iconst 1, 1) := by decide +kernel
theorem dd_P_targetsOfPiece_76 : decode bb_P_targetsOfPiece 76 = .ok (.invokevirtual 119, 3) := by decide +kernel
theorem dd_P_targetsOfPiece_79 : decode bb_P_targetsOfPiece 79 = .ok (.lreturn, 1) := by decide +kernel
abbrev ty_P_targetsOfPiece : Type := Int64
noncomputable def fn_P_targetsOfPiece (sd : Int32) (sq : Nat → Int32) (a1 : Int32) (a2 : Int32) : Option ty_P_targetsOfPiece := if a1 = 2 then ((fn_P_targetsOfKnight sd sq a2).bind fun r1 => some r1) else (if a1 = 3 then ((fn_P_targetsOnWays sd sq a2 4 8 7).bind fun r2 => some r2) else (if a1 = 4 then ((fn_P_targetsOnWays sd sq a2 0 4 7).bind fun r3 => some r3) else (if a1 = 5 then ((fn_P_targetsOnWays sd sq a2 0 8 7).bind fun r4 => some r4) else ((fn_P_targetsOnWays sd sq a2 0 8 1).bind fun r5 => some r5))))
abbrev rm_P_targetsOfPiece : Room := { frames := 2, cells := 0, slots := 0, locals := 56 }
set_option maxHeartbeats 4000000 in
set_option maxRecDepth 100000 in
theorem ct_P_targetsOfPiece (l : Launch) (dC : Nat → ClassId) (dI : Nat → Nat → Nat) (cI cL cR : ClassId) (oP osq okg : Nat) (sd : Int32) (rt : Int32) (ps : Int32) (sq : Nat → Int32) (kg : Nat → Int32) (a1 : Int32) (a2 : Int32) {rr : Int64} (hf : fn_P_targetsOfPiece sd sq a1 a2 = some rr) : qq_det l yy_P_targetsOfPiece (ww_of yy_P_targetsOfPiece bb_P_targetsOfPiece 3 (some .long)) rm_P_targetsOfPiece (dC, dI) (qq_ty cI cL cR) [.ref oP, .int a1, .int a2] [(oP, .inr (1, [.ref osq, .ref okg, .int sd, .int rt, .int ps])), (osq, .inl (cI, 64, .inl sq)), (okg, .inl (cI, 2, .inl kg))] (some (.long rr)) [(oP, .inr (1, [.ref osq, .ref okg, .int sd, .int rt, .int ps])), (osq, .inl (cI, 64, .inl sq)), (okg, .inl (cI, 2, .inl kg))] := by
  refine qq_of (own := RR_P) (by decide) rfl (Nat.le_of_ble_eq_true rfl) ?_
  intro p e s m below meth c A Q ls hx hb hml hr hlocks hown hts hK hA hT hN hP hD hS hl hQ
  have hl : lv_has ls 3 [(0, .ref oP), (1, .int a1), (2, .int a2)] := hl
  rw [fn_P_targetsOfPiece] at hf
  refine lv_iload_n hx hb dd_P_targetsOfPiece_0 rfl (lv_at hl 1 rfl) ?_
  by_cases hk0 : a1 = 2
  · replace hf := qq_t hk0 hf
    refine lv_tableIn (tgt := 32) (off := 31) hx hb dd_P_targetsOfPiece_1 (by rw [hk0]; decide) (by rw [hk0]; decide) (by rw [hk0]; decide) (by decide) ?_
    refine lv_aload_n hx hb dd_P_targetsOfPiece_32 rfl (lv_at hl 0 rfl) ?_
    refine lv_iload_n hx hb dd_P_targetsOfPiece_33 rfl (lv_at hl 2 rfl) ?_
    obtain ⟨r1, hy1, hf⟩ := qq_bd hf
    refine qq_V (As := [.int a2]) (rest := []) (wr := []) (wf := [(oP, .inr (1, [.ref osq, .ref okg, .int sd, .int rt, .int ps])), (osq, .inl (cI, 64, .inl sq)), (okg, .inl (cI, 2, .inl kg))]) ⟨hx, hb, hml, hown, hts⟩ (ct_P_targetsOfKnight l dC dI cI cL cR oP osq okg sd rt ps sq kg a2 hy1) mm_70 mm_71 mm_72 mm_69 mm_15 hd_P_targetsOfKnight (by decide) qq_00 hP hD hK hS hA hT hN (q0 := 0) (ci := 1) rfl rfl [0, 1, 2] [] [0, 1, 2] rfl rfl rfl (by decide) rfl hl.1 rfl (Nat.le_of_ble_eq_true rfl) dd_P_targetsOfPiece_34 (fun H locs hP hD hS => ?_)
    refine W.eq (g2 := F0 m 37 ls [.long r1]) rfl ?_
    cases hf
    exact qq_lret hx hb hr hlocks hQ hP hD hK hS dd_P_targetsOfPiece_37
  · replace hf := qq_f hk0 hf
    by_cases hk1 : a1 = 3
    · replace hf := qq_t hk1 hf
      refine lv_tableIn (tgt := 38) (off := 37) hx hb dd_P_targetsOfPiece_1 (by rw [hk1]; decide) (by rw [hk1]; decide) (by rw [hk1]; decide) (by decide) ?_
      refine lv_aload_n hx hb dd_P_targetsOfPiece_38 rfl (lv_at hl 0 rfl) ?_
      refine lv_iload_n hx hb dd_P_targetsOfPiece_39 rfl (lv_at hl 2 rfl) ?_
      refine lv_iconst (v := 4) hx hb dd_P_targetsOfPiece_40 (by decide) ?_
      refine lv_bipush (v := 8) hx hb dd_P_targetsOfPiece_41 (by decide) ?_
      refine lv_bipush (v := 7) hx hb dd_P_targetsOfPiece_43 (by decide) ?_
      obtain ⟨r2, hy2, hf⟩ := qq_bd hf
      refine qq_V (As := [.int a2, .int 4, .int 8, .int 7]) (rest := []) (wr := []) (wf := [(oP, .inr (1, [.ref osq, .ref okg, .int sd, .int rt, .int ps])), (osq, .inl (cI, 64, .inl sq)), (okg, .inl (cI, 2, .inl kg))]) ⟨hx, hb, hml, hown, hts⟩ (ct_P_targetsOnWays l dC dI cI cL cR oP osq okg sd rt ps sq kg a2 4 8 7 hy2) mm_74 mm_75 mm_76 mm_73 mm_15 hd_P_targetsOnWays (by decide) qq_00 hP hD hK hS hA hT hN (q0 := 0) (ci := 1) rfl rfl [0, 1, 2] [] [0, 1, 2] rfl rfl rfl (by decide) rfl hl.1 rfl (Nat.le_of_ble_eq_true rfl) dd_P_targetsOfPiece_45 (fun H locs hP hD hS => ?_)
      refine W.eq (g2 := F0 m 48 ls [.long r2]) rfl ?_
      cases hf
      exact qq_lret hx hb hr hlocks hQ hP hD hK hS dd_P_targetsOfPiece_48
    · replace hf := qq_f hk1 hf
      by_cases hk2 : a1 = 4
      · replace hf := qq_t hk2 hf
        refine lv_tableIn (tgt := 49) (off := 48) hx hb dd_P_targetsOfPiece_1 (by rw [hk2]; decide) (by rw [hk2]; decide) (by rw [hk2]; decide) (by decide) ?_
        refine lv_aload_n hx hb dd_P_targetsOfPiece_49 rfl (lv_at hl 0 rfl) ?_
        refine lv_iload_n hx hb dd_P_targetsOfPiece_50 rfl (lv_at hl 2 rfl) ?_
        refine lv_iconst (v := 0) hx hb dd_P_targetsOfPiece_51 (by decide) ?_
        refine lv_iconst (v := 4) hx hb dd_P_targetsOfPiece_52 (by decide) ?_
        refine lv_bipush (v := 7) hx hb dd_P_targetsOfPiece_53 (by decide) ?_
        obtain ⟨r3, hy3, hf⟩ := qq_bd hf
        refine qq_V (As := [.int a2, .int 0, .int 4, .int 7]) (rest := []) (wr := []) (wf := [(oP, .inr (1, [.ref osq, .ref okg, .int sd, .int rt, .int ps])), (osq, .inl (cI, 64, .inl sq)), (okg, .inl (cI, 2, .inl kg))]) ⟨hx, hb, hml, hown, hts⟩ (ct_P_targetsOnWays l dC dI cI cL cR oP osq okg sd rt ps sq kg a2 0 4 7 hy3) mm_74 mm_75 mm_76 mm_73 mm_15 hd_P_targetsOnWays (by decide) qq_00 hP hD hK hS hA hT hN (q0 := 0) (ci := 1) rfl rfl [0, 1, 2] [] [0, 1, 2] rfl rfl rfl (by decide) rfl hl.1 rfl (Nat.le_of_ble_eq_true rfl) dd_P_targetsOfPiece_55 (fun H locs hP hD hS => ?_)
        refine W.eq (g2 := F0 m 58 ls [.long r3]) rfl ?_
        cases hf
        exact qq_lret hx hb hr hlocks hQ hP hD hK hS dd_P_targetsOfPiece_58
      · replace hf := qq_f hk2 hf
        by_cases hk3 : a1 = 5
        · replace hf := qq_t hk3 hf
          refine lv_tableIn (tgt := 59) (off := 58) hx hb dd_P_targetsOfPiece_1 (by rw [hk3]; decide) (by rw [hk3]; decide) (by rw [hk3]; decide) (by decide) ?_
          refine lv_aload_n hx hb dd_P_targetsOfPiece_59 rfl (lv_at hl 0 rfl) ?_
          refine lv_iload_n hx hb dd_P_targetsOfPiece_60 rfl (lv_at hl 2 rfl) ?_
          refine lv_iconst (v := 0) hx hb dd_P_targetsOfPiece_61 (by decide) ?_
          refine lv_bipush (v := 8) hx hb dd_P_targetsOfPiece_62 (by decide) ?_
          refine lv_bipush (v := 7) hx hb dd_P_targetsOfPiece_64 (by decide) ?_
          obtain ⟨r4, hy4, hf⟩ := qq_bd hf
          refine qq_V (As := [.int a2, .int 0, .int 8, .int 7]) (rest := []) (wr := []) (wf := [(oP, .inr (1, [.ref osq, .ref okg, .int sd, .int rt, .int ps])), (osq, .inl (cI, 64, .inl sq)), (okg, .inl (cI, 2, .inl kg))]) ⟨hx, hb, hml, hown, hts⟩ (ct_P_targetsOnWays l dC dI cI cL cR oP osq okg sd rt ps sq kg a2 0 8 7 hy4) mm_74 mm_75 mm_76 mm_73 mm_15 hd_P_targetsOnWays (by decide) qq_00 hP hD hK hS hA hT hN (q0 := 0) (ci := 1) rfl rfl [0, 1, 2] [] [0, 1, 2] rfl rfl rfl (by decide) rfl hl.1 rfl (Nat.le_of_ble_eq_true rfl) dd_P_targetsOfPiece_66 (fun H locs hP hD hS => ?_)
          refine W.eq (g2 := F0 m 69 ls [.long r4]) rfl ?_
          cases hf
          exact qq_lret hx hb hr hlocks hQ hP hD hK hS dd_P_targetsOfPiece_69
        · replace hf := qq_f hk3 hf
          have hn0 := lv_neT hk0 (by decide : (2 : Int32).toInt = 2)
          have hn1 := lv_neT hk1 (by decide : (3 : Int32).toInt = 3)
          have hn2 := lv_neT hk2 (by decide : (4 : Int32).toInt = 4)
          have hn3 := lv_neT hk3 (by decide : (5 : Int32).toInt = 5)
          refine lv_tableOut (tgt := 70) hx hb dd_P_targetsOfPiece_1 (by omega) (by decide) ?_
          refine lv_aload_n hx hb dd_P_targetsOfPiece_70 rfl (lv_at hl 0 rfl) ?_
          refine lv_iload_n hx hb dd_P_targetsOfPiece_71 rfl (lv_at hl 2 rfl) ?_
          refine lv_iconst (v := 0) hx hb dd_P_targetsOfPiece_72 (by decide) ?_
          refine lv_bipush (v := 8) hx hb dd_P_targetsOfPiece_73 (by decide) ?_
          refine lv_iconst (v := 1) hx hb dd_P_targetsOfPiece_75 (by decide) ?_
          obtain ⟨r5, hy5, hf⟩ := qq_bd hf
          refine qq_V (As := [.int a2, .int 0, .int 8, .int 1]) (rest := []) (wr := []) (wf := [(oP, .inr (1, [.ref osq, .ref okg, .int sd, .int rt, .int ps])), (osq, .inl (cI, 64, .inl sq)), (okg, .inl (cI, 2, .inl kg))]) ⟨hx, hb, hml, hown, hts⟩ (ct_P_targetsOnWays l dC dI cI cL cR oP osq okg sd rt ps sq kg a2 0 8 1 hy5) mm_74 mm_75 mm_76 mm_73 mm_15 hd_P_targetsOnWays (by decide) qq_00 hP hD hK hS hA hT hN (q0 := 0) (ci := 1) rfl rfl [0, 1, 2] [] [0, 1, 2] rfl rfl rfl (by decide) rfl hl.1 rfl (Nat.le_of_ble_eq_true rfl) dd_P_targetsOfPiece_76 (fun H locs hP hD hS => ?_)
          refine W.eq (g2 := F0 m 79 ls [.long r5]) rfl ?_
          cases hf
          exact qq_lret hx hb hr hlocks hQ hP hD hK hS dd_P_targetsOfPiece_79
theorem dd_P_hasRight_0 : decode bb_P_hasRight 0 = .ok (.aload_n 0, 1) := by decide +kernel
theorem dd_P_hasRight_1 : decode bb_P_hasRight 1 = .ok (.getfield 147, 3) := by decide +kernel
theorem dd_P_hasRight_4 : decode bb_P_hasRight 4 = .ok (.iconst 2, 1) := by decide +kernel
theorem dd_P_hasRight_5 : decode bb_P_hasRight 5 = .ok (.aload_n 0, 1) := by decide +kernel
theorem dd_P_hasRight_6 : decode bb_P_hasRight 6 = .ok (.getfield 68, 3) := by decide +kernel
theorem dd_P_hasRight_9 : decode bb_P_hasRight 9 = .ok (.imul, 1) := by decide +kernel
theorem dd_P_hasRight_10 : decode bb_P_hasRight 10 = .ok (.iload_n 1, 1) := by decide +kernel
theorem dd_P_hasRight_11 : decode bb_P_hasRight 11 = .ok (.iadd, 1) := by decide +kernel
theorem dd_P_hasRight_12 : decode bb_P_hasRight 12 = .ok (.ishr, 1) := by decide +kernel
theorem dd_P_hasRight_13 : decode bb_P_hasRight 13 = .ok (.iconst 1, 1) := by decide +kernel
theorem dd_P_hasRight_14 : decode bb_P_hasRight 14 = .ok (.iand, 1) := by decide +kernel
theorem dd_P_hasRight_15 : decode bb_P_hasRight 15 = .ok (.ifCond .eq 7, 3) := by decide +kernel
theorem dd_P_hasRight_18 : decode bb_P_hasRight 18 = .ok (.iconst 1, 1) := by decide +kernel
theorem dd_P_hasRight_19 : decode bb_P_hasRight 19 = .ok (.goto 4, 3) := by decide +kernel
theorem dd_P_hasRight_22 : decode bb_P_hasRight 22 = .ok (.iconst 0, 1) := by decide +kernel
theorem dd_P_hasRight_23 : decode bb_P_hasRight 23 = .ok (.ireturn, 1) := by decide +kernel
abbrev ty_P_hasRight : Type := Int32
noncomputable def bk_P_hasRight_23 (sd : Int32) (rt : Int32) (a1 : Int32) (s0 : Int32) : Option ty_P_hasRight := qq_ck (qq_b s0) <| some s0
noncomputable def fn_P_hasRight (sd : Int32) (rt : Int32) (a1 : Int32) : Option ty_P_hasRight := if ((rt >>> (((2 * sd) + a1) &&& 31)) &&& 1) = 0 then (bk_P_hasRight_23 sd rt a1 0) else (bk_P_hasRight_23 sd rt a1 1)
abbrev rm_P_hasRight : Room := { frames := 0, cells := 0, slots := 0, locals := 0 }
set_option maxHeartbeats 4000000 in
set_option maxRecDepth 100000 in
theorem ct_P_hasRight (l : Launch) (dC : Nat → ClassId) (dI : Nat → Nat → Nat) (cI cL cR : ClassId) (oP osq okg : Nat) (sd : Int32) (rt : Int32) (ps : Int32) (sq : Nat → Int32) (kg : Nat → Int32) (a1 : Int32) {rr : Int32} (hf : fn_P_hasRight sd rt a1 = some rr) : qq_det l yy_P_hasRight (ww_of yy_P_hasRight bb_P_hasRight 2 (some .boolean)) rm_P_hasRight (dC, dI) (qq_ty cI cL cR) [.ref oP, .int a1] [(oP, .inr (1, [.ref osq, .ref okg, .int sd, .int rt, .int ps])), (osq, .inl (cI, 64, .inl sq)), (okg, .inl (cI, 2, .inl kg))] (some (.int rr)) [(oP, .inr (1, [.ref osq, .ref okg, .int sd, .int rt, .int ps])), (osq, .inl (cI, 64, .inl sq)), (okg, .inl (cI, 2, .inl kg))] := by
  refine qq_of (own := RR_P) (by decide) rfl (Nat.le_of_ble_eq_true rfl) ?_
  intro p e s m below meth c A Q ls hx hb hml hr hlocks hown hts hK hA hT hN hP hD hS hl hQ
  have hl : lv_has ls 2 [(0, .ref oP), (1, .int a1)] := hl
  have hJ23 : ∀ (s0 : Int32) (H : Heap) (locs : List Loc) (ls : Array Slot), lv_has ls 2 [] → va_P (dC, dI) classes [(oP, .inr (1, [.ref osq, .ref okg, .int sd, .int rt, .int ps])), (osq, .inl (cI, 64, .inl sq)), (okg, .inl (cI, 2, .inl kg))] H → va_D A [(oP, .inr (1, [.ref osq, .ref okg, .int sd, .int rt, .int ps])), (osq, .inl (cI, 64, .inl sq)), (okg, .inl (cI, 2, .inl kg))] → va_S A s.heap H locs → bk_P_hasRight_23 sd rt a1 s0 = some rr → W p l e rm_P_hasRight s m ([.ref oP, .int a1] : List Value).toArray below meth c H locs 0 0 Q (F0 m 23 ls [.int s0]) := by
    intro s0 H locs ls hl hP hD hS hf
    rw [bk_P_hasRight_23] at hf
    obtain ⟨hzb, hf⟩ := qq_ckE hf
    cases hf
    exact qq_zret hx hb hr (qq_bE hzb) hlocks hQ hP hD hK hS dd_P_hasRight_23
  rw [fn_P_hasRight] at hf
  refine lv_aload_n hx hb dd_P_hasRight_0 rfl (lv_at hl 0 rfl) ?_
  refine va_get (D := (dC, dI)) (ci := 1) (v := .int rt) (C := RR_P) (T := FF_P) (N := 5) hx hb hts uu_P hown hK hP 0 rfl rfl 3 (by decide) (hts _ mm_77) (fun _ h9 => h9) rfl dd_P_hasRight_1 ?_
  refine lv_iconst (v := 2) hx hb dd_P_hasRight_4 (by decide) ?_
  refine lv_aload_n hx hb dd_P_hasRight_5 rfl (lv_at hl 0 rfl) ?_
  refine va_get (D := (dC, dI)) (ci := 1) (v := .int sd) (C := RR_P) (T := FF_P) (N := 5) hx hb hts uu_P hown hK hP 0 rfl rfl 2 (by decide) (hts _ mm_12) (fun _ h9 => h9) rfl dd_P_hasRight_6 ?_
  refine lv_imul hx hb dd_P_hasRight_9 ?_
  refine lv_iload_n hx hb dd_P_hasRight_10 rfl (lv_at hl 1 rfl) ?_
  refine lv_iadd hx hb dd_P_hasRight_11 ?_
  refine lv_ishr hx hb dd_P_hasRight_12 ?_
  refine lv_iconst (v := 1) hx hb dd_P_hasRight_13 (by decide) ?_
  refine lv_iand hx hb dd_P_hasRight_14 ?_
  refine lv_if_eq (tgt := 22) hx hb dd_P_hasRight_15 (by decide) (fun hc => ?_) (fun hc => ?_)
  · replace hf := qq_t hc hf
    refine lv_iconst (v := 0) hx hb dd_P_hasRight_22 (by decide) ?_
    exact hJ23 0 _ _ _ (lv_sub hl [] rfl) hP hD hS hf
  · replace hf := qq_f hc hf
    refine lv_iconst (v := 1) hx hb dd_P_hasRight_18 (by decide) ?_
    refine lv_goto (tgt := 23) hx hb dd_P_hasRight_19 (by decide) ?_
    exact hJ23 1 _ _ _ (lv_sub hl [] rfl) hP hD hS hf
theorem dd_P_isEmpty_0 : decode bb_P_isEmpty 0 = .ok (.iload_n 1, 1) := by decide +kernel
theorem dd_P_isEmpty_1 : decode bb_P_isEmpty 1 = .ok (.istore_n 3, 1) := by decide +kernel
theorem dd_P_isEmpty_2 : decode bb_P_isEmpty 2 = .ok (.iload_n 3, 1) := by decide +kernel
theorem dd_P_isEmpty_3 : decode bb_P_isEmpty 3 = .ok (.iload_n 2, 1) := by decide +kernel
theorem dd_P_isEmpty_4 : decode bb_P_isEmpty 4 = .ok (.if_icmp .gt 20, 3) := by decide +kernel
theorem dd_P_isEmpty_7 : decode bb_P_isEmpty 7 = .ok (.aload_n 0, 1) := by decide +kernel
theorem dd_P_isEmpty_8 : decode bb_P_isEmpty 8 = .ok (.getfield 9, 3) := by decide +kernel
theorem dd_P_isEmpty_11 : decode bb_P_isEmpty 11 = .ok (.iload_n 3, 1) := by decide +kernel
theorem dd_P_isEmpty_12 : decode bb_P_isEmpty 12 = .ok (.iaload, 1) := by decide +kernel
theorem dd_P_isEmpty_13 : decode bb_P_isEmpty 13 = .ok (.ifCond .eq 5, 3) := by decide +kernel
theorem dd_P_isEmpty_16 : decode bb_P_isEmpty 16 = .ok (.iconst 0, 1) := by decide +kernel
theorem dd_P_isEmpty_17 : decode bb_P_isEmpty 17 = .ok (.ireturn, 1) := by decide +kernel
theorem dd_P_isEmpty_18 : decode bb_P_isEmpty 18 = .ok (.iinc 3 1, 3) := by decide +kernel
theorem dd_P_isEmpty_21 : decode bb_P_isEmpty 21 = .ok (.goto (-19), 3) := by decide +kernel
theorem dd_P_isEmpty_24 : decode bb_P_isEmpty 24 = .ok (.iconst 1, 1) := by decide +kernel
theorem dd_P_isEmpty_25 : decode bb_P_isEmpty 25 = .ok (.ireturn, 1) := by decide +kernel
abbrev ty_P_isEmpty : Type := Int32
noncomputable def lo_P_isEmpty_2 (sq : Nat → Int32) (a1 : Int32) (a2 : Int32) : Nat → Int32 → Option ty_P_isEmpty
  | 0, _ => none
  | n + 1, x3 => if a2 < x3 then (some (1 : Int32)) else (qq_ck (qq_in x3 64) <| if (sq x3.toNatClampNeg) = 0 then (qq_let (x3 + 1) fun v1002 => (lo_P_isEmpty_2 sq a1 a2 n) v1002) else (some (0 : Int32)))
theorem lo_P_isEmpty_2_z (sq : Nat → Int32) (a1 : Int32) (a2 : Int32) (x3 : Int32) : lo_P_isEmpty_2 sq a1 a2 0 x3 = none := rfl
theorem lo_P_isEmpty_2_s (sq : Nat → Int32) (a1 : Int32) (a2 : Int32) (x3 : Int32) (n : Nat) : lo_P_isEmpty_2 sq a1 a2 (n + 1) x3 = (if a2 < x3 then (some (1 : Int32)) else (qq_ck (qq_in x3 64) <| if (sq x3.toNatClampNeg) = 0 then (qq_let (x3 + 1) fun v1002 => (lo_P_isEmpty_2 sq a1 a2 n) v1002) else (some (0 : Int32)))) := rfl
noncomputable def fn_P_isEmpty (sq : Nat → Int32) (a1 : Int32) (a2 : Int32) : Option ty_P_isEmpty := lo_P_isEmpty_2 sq a1 a2 qq_FU a1
abbrev rm_P_isEmpty : Room := { frames := 0, cells := 0, slots := 0, locals := 0 }
set_option maxHeartbeats 4000000 in
set_option maxRecDepth 100000 in
theorem ct_P_isEmpty (l : Launch) (dC : Nat → ClassId) (dI : Nat → Nat → Nat) (cI cL cR : ClassId) (oP osq okg : Nat) (sd : Int32) (rt : Int32) (ps : Int32) (sq : Nat → Int32) (kg : Nat → Int32) (a1 : Int32) (a2 : Int32) {rr : Int32} (hf : fn_P_isEmpty sq a1 a2 = some rr) : qq_det l yy_P_isEmpty (ww_of yy_P_isEmpty bb_P_isEmpty 4 (some .boolean)) rm_P_isEmpty (dC, dI) (qq_ty cI cL cR) [.ref oP, .int a1, .int a2] [(oP, .inr (1, [.ref osq, .ref okg, .int sd, .int rt, .int ps])), (osq, .inl (cI, 64, .inl sq)), (okg, .inl (cI, 2, .inl kg))] (some (.int rr)) [(oP, .inr (1, [.ref osq, .ref okg, .int sd, .int rt, .int ps])), (osq, .inl (cI, 64, .inl sq)), (okg, .inl (cI, 2, .inl kg))] := by
  refine qq_of (own := RR_P) (by decide) rfl (Nat.le_of_ble_eq_true rfl) ?_
  intro p e s m below meth c A Q ls hx hb hml hr hlocks hown hts hK hA hT hN hP hD hS hl hQ
  have hl : lv_has ls 4 [(0, .ref oP), (1, .int a1), (2, .int a2)] := hl
  have hL2 : ∀ (n2 : Nat) (x3 : Int32) (H : Heap) (locs : List Loc) (ls : Array Slot), lv_has ls 4 [(0, .ref oP), (2, .int a2), (3, .int x3)] → va_P (dC, dI) classes [(oP, .inr (1, [.ref osq, .ref okg, .int sd, .int rt, .int ps])), (osq, .inl (cI, 64, .inl sq)), (okg, .inl (cI, 2, .inl kg))] H → va_D A [(oP, .inr (1, [.ref osq, .ref okg, .int sd, .int rt, .int ps])), (osq, .inl (cI, 64, .inl sq)), (okg, .inl (cI, 2, .inl kg))] → va_S A s.heap H locs → lo_P_isEmpty_2 sq a1 a2 n2 x3 = some rr → W p l e rm_P_isEmpty s m ([.ref oP, .int a1, .int a2] : List Value).toArray below meth c H locs 0 0 Q (F0 m 2 ls []) := by
    intro n2
    induction n2 with
    | zero => exact fun x3 H locs ls hl hP hD hS hf => absurd hf (by rw [lo_P_isEmpty_2_z]; exact fun h => by cases h)
    | succ n2 ih2 =>
      intro x3 H locs ls hl hP hD hS hf
      rw [lo_P_isEmpty_2_s] at hf
      refine lv_iload_n hx hb dd_P_isEmpty_2 rfl (lv_at hl 2 rfl) ?_
      refine lv_iload_n hx hb dd_P_isEmpty_3 rfl (lv_at hl 1 rfl) ?_
      refine lv_icmp_gt (tgt := 24) hx hb dd_P_isEmpty_4 (by decide) (fun hc => ?_) (fun hc => ?_)
      · replace hf := qq_t hc hf
        refine lv_iconst (v := 1) hx hb dd_P_isEmpty_24 (by decide) ?_
        cases hf
        exact qq_zret hx hb hr rfl hlocks hQ hP hD hK hS dd_P_isEmpty_25
      · replace hf := qq_f hc hf
        refine lv_aload_n hx hb dd_P_isEmpty_7 rfl (lv_at hl 0 rfl) ?_
        refine va_get (D := (dC, dI)) (ci := 1) (v := .ref osq) (C := RR_P) (T := FF_P) (N := 5) hx hb hts uu_P hown hK hP 0 rfl rfl 0 (by decide) (hts _ mm_11) (fun _ h9 => h9) rfl dd_P_isEmpty_8 ?_
        refine lv_iload_n hx hb dd_P_isEmpty_11 rfl (lv_at hl 2 rfl) ?_
        obtain ⟨hi1001, hf⟩ := qq_ckE hf
        refine va_iald (D := (dC, dI)) (f := sq) (n := 64) (cA := cI) hx hb hK hP 1 0 rfl rfl (qq_inE hi1001) dd_P_isEmpty_12 ?_
        refine lv_if_eq (tgt := 18) hx hb dd_P_isEmpty_13 (by decide) (fun hc => ?_) (fun hc => ?_)
        · replace hf := qq_t hc hf
          obtain ⟨v1002, ev1002⟩ : ∃ z, z = x3 + 1 := ⟨_, rfl⟩
          replace hf := qq_lt ev1002 hf
          refine lv_iinc (k := 2) (v := v1002) (lv' := [(3, .int v1002), (0, .ref oP), (2, .int a2)]) hx hb dd_P_isEmpty_18 hl rfl (by rw [ev1002]; exact congrArg _ (by decide)) (by decide) rfl (fun ls hl => ?_)
          refine lv_goto (tgt := 2) hx hb dd_P_isEmpty_21 (by decide) ?_
          exact ih2 v1002 _ _ _ (lv_sub hl [1, 2, 0] rfl) hP hD hS hf
        · replace hf := qq_f hc hf
          refine lv_iconst (v := 0) hx hb dd_P_isEmpty_16 (by decide) ?_
          cases hf
          exact qq_zret hx hb hr rfl hlocks hQ hP hD hK hS dd_P_isEmpty_17
  rw [fn_P_isEmpty] at hf
  refine lv_iload_n hx hb dd_P_isEmpty_0 rfl (lv_at hl 1 rfl) ?_
  refine lv_istore_n (lv' := [(3, .int a1), (0, .ref oP), (1, .int a1), (2, .int a2)]) hx hb dd_P_isEmpty_1 rfl hl (by decide) rfl (fun ls hl => ?_)
  exact hL2 qq_FU a1 _ _ _ (lv_sub hl [1, 3, 0] rfl) hP hD hS hf
theorem dd_P_comesAlong_0 : decode bb_P_comesAlong 0 = .ok (.iload_n 0, 1) := by decide +kernel
theorem dd_P_comesAlong_1 : decode bb_P_comesAlong 1 = .ok (.tableswitch 107 1 6 #[74, 107, 52, 41, 39, 63], 39) := by decide +kernel
theorem dd_P_comesAlong_40 : decode bb_P_comesAlong 40 = .ok (.iconst 1, 1) := by decide +kernel
theorem dd_P_comesAlong_41 : decode bb_P_comesAlong 41 = .ok (.ireturn, 1) := by decide +kernel
theorem dd_P_comesAlong_42 : decode bb_P_comesAlong 42 = .ok (.iload_n 2, 1) := by decide +kernel
theorem dd_P_comesAlong_43 : decode bb_P_comesAlong 43 = .ok (.iconst 4, 1) := by decide +kernel
theorem dd_P_comesAlong_44 : decode bb_P_comesAlong 44 = .ok (.if_icmp .ge 7, 3) := by decide +kernel
theorem dd_P_comesAlong_47 : decode bb_P_comesAlong 47 = .ok (.iconst 1, 1) := by decide +kernel
theorem dd_P_comesAlong_48 : decode bb_P_comesAlong 48 = .ok (.goto 4, 3) := by decide +kernel
theorem dd_P_comesAlong_51 : decode bb_P_comesAlong 51 = .ok (.iconst 0, 1) := by decide +kernel
theorem dd_P_comesAlong_52 : decode bb_P_comesAlong 52 = .ok (.ireturn, 1) := by decide +kernel
theorem dd_P_comesAlong_53 : decode bb_P_comesAlong 53 = .ok (.iload_n 2, 1) := by decide +kernel
theorem dd_P_comesAlong_54 : decode bb_P_comesAlong 54 = .ok (.iconst 4, 1) := by decide +kernel
theorem dd_P_comesAlong_55 : decode bb_P_comesAlong 55 = .ok (.if_icmp .lt 7, 3) := by decide +kernel
theorem dd_P_comesAlong_58 : decode bb_P_comesAlong 58 = .ok (.iconst 1, 1) := by decide +kernel
theorem dd_P_comesAlong_59 : decode bb_P_comesAlong 59 = .ok (.goto 4, 3) := by decide +kernel
theorem dd_P_comesAlong_62 : decode bb_P_comesAlong 62 = .ok (.iconst 0, 1) := by decide +kernel
theorem dd_P_comesAlong_63 : decode bb_P_comesAlong 63 = .ok (.ireturn, 1) := by decide +kernel
theorem dd_P_comesAlong_64 : decode bb_P_comesAlong 64 = .ok (.iload_n 3, 1) := by decide +kernel
theorem dd_P_comesAlong_65 : decode bb_P_comesAlong 65 = .ok (.iconst 1, 1) := by decide +kernel
theorem dd_P_comesAlong_66 : decode bb_P_comesAlong 66 = .ok (.if_icmp .ne 7, 3) := by decide +kernel
theorem dd_P_comesAlong_69 : decode bb_P_comesAlong 69 = .ok (.iconst 1, 1) := by decide +kernel
theorem dd_P_comesAlong_70 : decode bb_P_comesAlong 70 = .ok (.goto 4, 3) := by decide +kernel
theorem dd_P_comesAlong_73 : decode bb_P_comesAlong 73 = .ok (.iconst 0, 1) := by decide +kernel
theorem dd_P_comesAlong_74 : decode bb_P_comesAlong 74 = .ok (.ireturn, 1) := by decide +kernel
theorem dd_P_comesAlong_75 : decode bb_P_comesAlong 75 = .ok (.iload_n 3, 1) := by decide +kernel
theorem dd_P_comesAlong_76 : decode bb_P_comesAlong 76 = .ok (.iconst 1, 1) := by decide +kernel
theorem dd_P_comesAlong_77 : decode bb_P_comesAlong 77 = .ok (.if_icmp .ne 29, 3) := by decide +kernel
theorem dd_P_comesAlong_80 : decode bb_P_comesAlong 80 = .ok (.iload_n 2, 1) := by decide +kernel
theorem dd_P_comesAlong_81 : decode bb_P_comesAlong 81 = .ok (.iconst 4, 1) := by decide +kernel
theorem dd_P_comesAlong_82 : decode bb_P_comesAlong 82 = .ok (.if_icmp .lt 24, 3) := by decide +kernel
theorem dd_P_comesAlong_85 : decode bb_P_comesAlong 85 = .ok (.getstatic 39, 3) := by decide +kernel
theorem dd_P_comesAlong_88 : decode bb_P_comesAlong 88 = .ok (.iload_n 2, 1) := by decide +kernel
theorem dd_P_comesAlong_89 : decode bb_P_comesAlong 89 = .ok (.iaload, 1) := by decide +kernel
theorem dd_P_comesAlong_90 : decode bb_P_comesAlong 90 = .ok (.iload_n 1, 1) := by decide +kernel
theorem dd_P_comesAlong_91 : decode bb_P_comesAlong 91 = .ok (.ifCond .ne 7, 3) := by decide +kernel
theorem dd_P_comesAlong_94 : decode bb_P_comesAlong 94 = .ok (.iconst (-1), 1) := by decide +kernel
theorem dd_P_comesAlong_95 : decode bb_P_comesAlong 95 = .ok (.goto 4, 3) := by decide +kernel
theorem dd_P_comesAlong_98 : decode bb_P_comesAlong 98 = .ok (.iconst 1, 1) := by decide +kernel
theorem dd_P_comesAlong_99 : decode bb_P_comesAlong 99 = .ok (.if_icmp .ne 7, 3) := by decide +kernel
theorem dd_P_comesAlong_102 : decode bb_P_comesAlong 102 = .ok (.iconst 1, 1) := by decide +kernel
theorem dd_P_comesAlong_103 : decode bb_P_comesAlong 103 = .ok (.goto 4, 3) := by decide +kernel
theorem dd_P_comesAlong_106 : decode bb_P_comesAlong 106 = .ok (.iconst 0, 1) := by decide +kernel
theorem dd_P_comesAlong_107 : decode bb_P_comesAlong 107 = .ok (.ireturn, 1) := by decide +kernel
theorem dd_P_comesAlong_108 : decode bb_P_comesAlong 108 = .ok (.iconst 0, 1) := by decide +kernel
theorem dd_P_comesAlong_109 : decode bb_P_comesAlong 109 = .ok (.ireturn, 1) := by decide +kernel
abbrev ty_P_comesAlong : Type := Int32
noncomputable def bk_P_comesAlong_107 (a0 : Int32) (a1 : Int32) (a2 : Int32) (a3 : Int32) (s0 : Int32) : Option ty_P_comesAlong := qq_ck (qq_b s0) <| some s0
noncomputable def bk_P_comesAlong_106 (a0 : Int32) (a1 : Int32) (a2 : Int32) (a3 : Int32) : Option ty_P_comesAlong := bk_P_comesAlong_107 a0 a1 a2 a3 0
noncomputable def bk_P_comesAlong_99 (a0 : Int32) (a1 : Int32) (a2 : Int32) (a3 : Int32) (s0 : Int32) (s1 : Int32) : Option ty_P_comesAlong := if s0 = s1 then (bk_P_comesAlong_107 a0 a1 a2 a3 1) else (bk_P_comesAlong_106 a0 a1 a2 a3)
noncomputable def bk_P_comesAlong_74 (a0 : Int32) (a1 : Int32) (a2 : Int32) (a3 : Int32) (s0 : Int32) : Option ty_P_comesAlong := qq_ck (qq_b s0) <| some s0
noncomputable def bk_P_comesAlong_63 (a0 : Int32) (a1 : Int32) (a2 : Int32) (a3 : Int32) (s0 : Int32) : Option ty_P_comesAlong := qq_ck (qq_b s0) <| some s0
noncomputable def bk_P_comesAlong_52 (a0 : Int32) (a1 : Int32) (a2 : Int32) (a3 : Int32) (s0 : Int32) : Option ty_P_comesAlong := qq_ck (qq_b s0) <| some s0
noncomputable def fn_P_comesAlong (a0 : Int32) (a1 : Int32) (a2 : Int32) (a3 : Int32) : Option ty_P_comesAlong := if a0 = 1 then (if a3 = 1 then (if a2 < 4 then (bk_P_comesAlong_106 a0 a1 a2 a3) else (qq_ck (qq_in a2 8) <| if a1 = 0 then (bk_P_comesAlong_99 a0 a1 a2 a3 (tb_WAY_RANKS a2.toNatClampNeg) (-1)) else (bk_P_comesAlong_99 a0 a1 a2 a3 (tb_WAY_RANKS a2.toNatClampNeg) 1))) else (bk_P_comesAlong_106 a0 a1 a2 a3)) else (if a0 = 2 then (some (0 : Int32)) else (if a0 = 3 then (if a2 < 4 then (bk_P_comesAlong_63 a0 a1 a2 a3 0) else (bk_P_comesAlong_63 a0 a1 a2 a3 1)) else (if a0 = 4 then (if 4 ≤ a2 then (bk_P_comesAlong_52 a0 a1 a2 a3 0) else (bk_P_comesAlong_52 a0 a1 a2 a3 1)) else (if a0 = 5 then (some (1 : Int32)) else (if a0 = 6 then (if a3 = 1 then (bk_P_comesAlong_74 a0 a1 a2 a3 1) else (bk_P_comesAlong_74 a0 a1 a2 a3 0)) else (some (0 : Int32)))))))
abbrev rm_P_comesAlong : Room := { frames := 0, cells := 0, slots := 0, locals := 0 }
set_option maxHeartbeats 4000000 in
set_option maxRecDepth 100000 in
theorem ct_P_comesAlong (l : Launch) (dC : Nat → ClassId) (dI : Nat → Nat → Nat) (cI cL cR : ClassId) (a0 : Int32) (a1 : Int32) (a2 : Int32) (a3 : Int32) {rr : Int32} (hf : fn_P_comesAlong a0 a1 a2 a3 = some rr) : qq_det l yy_P_comesAlong (ww_of yy_P_comesAlong bb_P_comesAlong 4 (some .boolean)) rm_P_comesAlong (dC, dI) (qq_ty cI cL cR) [.int a0, .int a1, .int a2, .int a3] [] (some (.int rr)) [] := by
  refine qq_of (own := RR_P) (by decide) rfl (Nat.le_of_ble_eq_true rfl) ?_
  intro p e s m below meth c A Q ls hx hb hml hr hlocks hown hts hK hA hT hN hP hD hS hl hQ
  have hl : lv_has ls 4 [(0, .int a0), (1, .int a1), (2, .int a2), (3, .int a3)] := hl
  obtain ⟨t_WAY_RANKS, hZ_WAY_RANKS, hT_WAY_RANKS⟩ := qq_T2 hT
  have hJ107 : ∀ (s0 : Int32) (H : Heap) (locs : List Loc) (ls : Array Slot), lv_has ls 4 [] → va_P (dC, dI) classes [] H → va_D A [] → va_S A s.heap H locs → bk_P_comesAlong_107 a0 a1 a2 a3 s0 = some rr → W p l e rm_P_comesAlong s m ([.int a0, .int a1, .int a2, .int a3] : List Value).toArray below meth c H locs 0 0 Q (F0 m 107 ls [.int s0]) := by
    intro s0 H locs ls hl hP hD hS hf
    rw [bk_P_comesAlong_107] at hf
    obtain ⟨hzb, hf⟩ := qq_ckE hf
    cases hf
    exact qq_zret hx hb hr (qq_bE hzb) hlocks hQ hP hD hK hS dd_P_comesAlong_107
  have hJ106 : ∀  (H : Heap) (locs : List Loc) (ls : Array Slot), lv_has ls 4 [] → va_P (dC, dI) classes [] H → va_D A [] → va_S A s.heap H locs → bk_P_comesAlong_106 a0 a1 a2 a3 = some rr → W p l e rm_P_comesAlong s m ([.int a0, .int a1, .int a2, .int a3] : List Value).toArray below meth c H locs 0 0 Q (F0 m 106 ls []) := by
    intro  H locs ls hl hP hD hS hf
    rw [bk_P_comesAlong_106] at hf
    refine lv_iconst (v := 0) hx hb dd_P_comesAlong_106 (by decide) ?_
    exact hJ107 0 _ _ _ (lv_sub hl [] rfl) hP hD hS hf
  have hJ99 : ∀ (s0 : Int32) (s1 : Int32) (H : Heap) (locs : List Loc) (ls : Array Slot), lv_has ls 4 [] → va_P (dC, dI) classes [] H → va_D A [] → va_S A s.heap H locs → bk_P_comesAlong_99 a0 a1 a2 a3 s0 s1 = some rr → W p l e rm_P_comesAlong s m ([.int a0, .int a1, .int a2, .int a3] : List Value).toArray below meth c H locs 0 0 Q (F0 m 99 ls [.int s1, .int s0]) := by
    intro s0 s1 H locs ls hl hP hD hS hf
    rw [bk_P_comesAlong_99] at hf
    refine lv_icmp_ne (tgt := 106) hx hb dd_P_comesAlong_99 (by decide) (fun hc => ?_) (fun hc => ?_)
    · replace hf := qq_f hc hf
      exact hJ106  _ _ _ (lv_sub hl [] rfl) hP hD hS hf
    · replace hf := qq_t hc hf
      refine lv_iconst (v := 1) hx hb dd_P_comesAlong_102 (by decide) ?_
      refine lv_goto (tgt := 107) hx hb dd_P_comesAlong_103 (by decide) ?_
      exact hJ107 1 _ _ _ (lv_sub hl [] rfl) hP hD hS hf
  have hJ74 : ∀ (s0 : Int32) (H : Heap) (locs : List Loc) (ls : Array Slot), lv_has ls 4 [] → va_P (dC, dI) classes [] H → va_D A [] → va_S A s.heap H locs → bk_P_comesAlong_74 a0 a1 a2 a3 s0 = some rr → W p l e rm_P_comesAlong s m ([.int a0, .int a1, .int a2, .int a3] : List Value).toArray below meth c H locs 0 0 Q (F0 m 74 ls [.int s0]) := by
    intro s0 H locs ls hl hP hD hS hf
    rw [bk_P_comesAlong_74] at hf
    obtain ⟨hzb, hf⟩ := qq_ckE hf
    cases hf
    exact qq_zret hx hb hr (qq_bE hzb) hlocks hQ hP hD hK hS dd_P_comesAlong_74
  have hJ63 : ∀ (s0 : Int32) (H : Heap) (locs : List Loc) (ls : Array Slot), lv_has ls 4 [] → va_P (dC, dI) classes [] H → va_D A [] → va_S A s.heap H locs → bk_P_comesAlong_63 a0 a1 a2 a3 s0 = some rr → W p l e rm_P_comesAlong s m ([.int a0, .int a1, .int a2, .int a3] : List Value).toArray below meth c H locs 0 0 Q (F0 m 63 ls [.int s0]) := by
    intro s0 H locs ls hl hP hD hS hf
    rw [bk_P_comesAlong_63] at hf
    obtain ⟨hzb, hf⟩ := qq_ckE hf
    cases hf
    exact qq_zret hx hb hr (qq_bE hzb) hlocks hQ hP hD hK hS dd_P_comesAlong_63
  have hJ52 : ∀ (s0 : Int32) (H : Heap) (locs : List Loc) (ls : Array Slot), lv_has ls 4 [] → va_P (dC, dI) classes [] H → va_D A [] → va_S A s.heap H locs → bk_P_comesAlong_52 a0 a1 a2 a3 s0 = some rr → W p l e rm_P_comesAlong s m ([.int a0, .int a1, .int a2, .int a3] : List Value).toArray below meth c H locs 0 0 Q (F0 m 52 ls [.int s0]) := by
    intro s0 H locs ls hl hP hD hS hf
    rw [bk_P_comesAlong_52] at hf
    obtain ⟨hzb, hf⟩ := qq_ckE hf
    cases hf
    exact qq_zret hx hb hr (qq_bE hzb) hlocks hQ hP hD hK hS dd_P_comesAlong_52
  rw [fn_P_comesAlong] at hf
  refine lv_iload_n hx hb dd_P_comesAlong_0 rfl (lv_at hl 0 rfl) ?_
  by_cases hk0 : a0 = 1
  · replace hf := qq_t hk0 hf
    refine lv_tableIn (tgt := 75) (off := 74) hx hb dd_P_comesAlong_1 (by rw [hk0]; decide) (by rw [hk0]; decide) (by rw [hk0]; decide) (by decide) ?_
    refine lv_iload_n hx hb dd_P_comesAlong_75 rfl (lv_at hl 3 rfl) ?_
    refine lv_iconst (v := 1) hx hb dd_P_comesAlong_76 (by decide) ?_
    refine lv_icmp_ne (tgt := 106) hx hb dd_P_comesAlong_77 (by decide) (fun hc => ?_) (fun hc => ?_)
    · replace hf := qq_f hc hf
      exact hJ106  _ _ _ (lv_sub hl [] rfl) hP hD hS hf
    · replace hf := qq_t hc hf
      refine lv_iload_n hx hb dd_P_comesAlong_80 rfl (lv_at hl 2 rfl) ?_
      refine lv_iconst (v := 4) hx hb dd_P_comesAlong_81 (by decide) ?_
      refine lv_icmp_lt (tgt := 106) hx hb dd_P_comesAlong_82 (by decide) (fun hc => ?_) (fun hc => ?_)
      · replace hf := qq_t hc hf
        exact hJ106  _ _ _ (lv_sub hl [] rfl) hP hD hS hf
      · replace hf := qq_f hc hf
        refine va_gets (C := RR_P) (n := "WAY_RANKS") (d := "[I") (ref := RR_P) hx hb hZ_WAY_RANKS hS hown (hts _ mm_54) (fun _ h9 => h9) dd_P_comesAlong_85 ?_
        refine lv_iload_n hx hb dd_P_comesAlong_88 rfl (lv_at hl 2 rfl) ?_
        obtain ⟨hi1, hf⟩ := qq_ckE hf
        refine va_ti (v := .int (tb_WAY_RANKS a2.toNatClampNeg)) hx hb hT_WAY_RANKS hS (qq_inE hi1) rfl dd_P_comesAlong_89 ?_
        refine lv_iload_n hx hb dd_P_comesAlong_90 rfl (lv_at hl 1 rfl) ?_
        refine lv_if_ne (tgt := 98) hx hb dd_P_comesAlong_91 (by decide) (fun hc => ?_) (fun hc => ?_)
        · replace hf := qq_f hc hf
          refine lv_iconst (v := 1) hx hb dd_P_comesAlong_98 (by decide) ?_
          exact hJ99 (tb_WAY_RANKS a2.toNatClampNeg) 1 _ _ _ (lv_sub hl [] rfl) hP hD hS hf
        · replace hf := qq_t hc hf
          refine lv_iconst (v := (-1)) hx hb dd_P_comesAlong_94 (by decide) ?_
          refine lv_goto (tgt := 99) hx hb dd_P_comesAlong_95 (by decide) ?_
          exact hJ99 (tb_WAY_RANKS a2.toNatClampNeg) (-1) _ _ _ (lv_sub hl [] rfl) hP hD hS hf
  · replace hf := qq_f hk0 hf
    by_cases hk1 : a0 = 2
    · replace hf := qq_t hk1 hf
      refine lv_tableIn (tgt := 108) (off := 107) hx hb dd_P_comesAlong_1 (by rw [hk1]; decide) (by rw [hk1]; decide) (by rw [hk1]; decide) (by decide) ?_
      refine lv_iconst (v := 0) hx hb dd_P_comesAlong_108 (by decide) ?_
      cases hf
      exact qq_zret hx hb hr rfl hlocks hQ hP hD hK hS dd_P_comesAlong_109
    · replace hf := qq_f hk1 hf
      by_cases hk2 : a0 = 3
      · replace hf := qq_t hk2 hf
        refine lv_tableIn (tgt := 53) (off := 52) hx hb dd_P_comesAlong_1 (by rw [hk2]; decide) (by rw [hk2]; decide) (by rw [hk2]; decide) (by decide) ?_
        refine lv_iload_n hx hb dd_P_comesAlong_53 rfl (lv_at hl 2 rfl) ?_
        refine lv_iconst (v := 4) hx hb dd_P_comesAlong_54 (by decide) ?_
        refine lv_icmp_lt (tgt := 62) hx hb dd_P_comesAlong_55 (by decide) (fun hc => ?_) (fun hc => ?_)
        · replace hf := qq_t hc hf
          refine lv_iconst (v := 0) hx hb dd_P_comesAlong_62 (by decide) ?_
          exact hJ63 0 _ _ _ (lv_sub hl [] rfl) hP hD hS hf
        · replace hf := qq_f hc hf
          refine lv_iconst (v := 1) hx hb dd_P_comesAlong_58 (by decide) ?_
          refine lv_goto (tgt := 63) hx hb dd_P_comesAlong_59 (by decide) ?_
          exact hJ63 1 _ _ _ (lv_sub hl [] rfl) hP hD hS hf
      · replace hf := qq_f hk2 hf
        by_cases hk3 : a0 = 4
        · replace hf := qq_t hk3 hf
          refine lv_tableIn (tgt := 42) (off := 41) hx hb dd_P_comesAlong_1 (by rw [hk3]; decide) (by rw [hk3]; decide) (by rw [hk3]; decide) (by decide) ?_
          refine lv_iload_n hx hb dd_P_comesAlong_42 rfl (lv_at hl 2 rfl) ?_
          refine lv_iconst (v := 4) hx hb dd_P_comesAlong_43 (by decide) ?_
          refine lv_icmp_ge (tgt := 51) hx hb dd_P_comesAlong_44 (by decide) (fun hc => ?_) (fun hc => ?_)
          · replace hf := qq_t hc hf
            refine lv_iconst (v := 0) hx hb dd_P_comesAlong_51 (by decide) ?_
            exact hJ52 0 _ _ _ (lv_sub hl [] rfl) hP hD hS hf
          · replace hf := qq_f hc hf
            refine lv_iconst (v := 1) hx hb dd_P_comesAlong_47 (by decide) ?_
            refine lv_goto (tgt := 52) hx hb dd_P_comesAlong_48 (by decide) ?_
            exact hJ52 1 _ _ _ (lv_sub hl [] rfl) hP hD hS hf
        · replace hf := qq_f hk3 hf
          by_cases hk4 : a0 = 5
          · replace hf := qq_t hk4 hf
            refine lv_tableIn (tgt := 40) (off := 39) hx hb dd_P_comesAlong_1 (by rw [hk4]; decide) (by rw [hk4]; decide) (by rw [hk4]; decide) (by decide) ?_
            refine lv_iconst (v := 1) hx hb dd_P_comesAlong_40 (by decide) ?_
            cases hf
            exact qq_zret hx hb hr rfl hlocks hQ hP hD hK hS dd_P_comesAlong_41
          · replace hf := qq_f hk4 hf
            by_cases hk5 : a0 = 6
            · replace hf := qq_t hk5 hf
              refine lv_tableIn (tgt := 64) (off := 63) hx hb dd_P_comesAlong_1 (by rw [hk5]; decide) (by rw [hk5]; decide) (by rw [hk5]; decide) (by decide) ?_
              refine lv_iload_n hx hb dd_P_comesAlong_64 rfl (lv_at hl 3 rfl) ?_
              refine lv_iconst (v := 1) hx hb dd_P_comesAlong_65 (by decide) ?_
              refine lv_icmp_ne (tgt := 73) hx hb dd_P_comesAlong_66 (by decide) (fun hc => ?_) (fun hc => ?_)
              · replace hf := qq_f hc hf
                refine lv_iconst (v := 0) hx hb dd_P_comesAlong_73 (by decide) ?_
                exact hJ74 0 _ _ _ (lv_sub hl [] rfl) hP hD hS hf
              · replace hf := qq_t hc hf
                refine lv_iconst (v := 1) hx hb dd_P_comesAlong_69 (by decide) ?_
                refine lv_goto (tgt := 74) hx hb dd_P_comesAlong_70 (by decide) ?_
                exact hJ74 1 _ _ _ (lv_sub hl [] rfl) hP hD hS hf
            · replace hf := qq_f hk5 hf
              have hn0 := lv_neT hk0 (by decide : (1 : Int32).toInt = 1)
              have hn1 := lv_neT hk1 (by decide : (2 : Int32).toInt = 2)
              have hn2 := lv_neT hk2 (by decide : (3 : Int32).toInt = 3)
              have hn3 := lv_neT hk3 (by decide : (4 : Int32).toInt = 4)
              have hn4 := lv_neT hk4 (by decide : (5 : Int32).toInt = 5)
              have hn5 := lv_neT hk5 (by decide : (6 : Int32).toInt = 6)
              refine lv_tableOut (tgt := 108) hx hb dd_P_comesAlong_1 (by omega) (by decide) ?_
              refine lv_iconst (v := 0) hx hb dd_P_comesAlong_108 (by decide) ?_
              cases hf
              exact qq_zret hx hb hr rfl hlocks hQ hP hD hK hS dd_P_comesAlong_109
theorem dd_P_isHitBy_0 : decode bb_P_isHitBy 0 = .ok (.iconst 0, 1) := by decide +kernel
theorem dd_P_isHitBy_1 : decode bb_P_isHitBy 1 = .ok (.istore_n 3, 1) := by decide +kernel
theorem dd_P_isHitBy_2 : decode bb_P_isHitBy 2 = .ok (.iload_n 3, 1) := by decide +kernel
theorem dd_P_isHitBy_3 : decode bb_P_isHitBy 3 = .ok (.bipush 8, 2) := by decide +kernel
theorem dd_P_isHitBy_5 : decode bb_P_isHitBy 5 = .ok (.if_icmp .ge 99, 3) := by decide +kernel
theorem dd_P_isHitBy_8 : decode bb_P_isHitBy 8 = .ok (.iload_n 3, 1) := by decide +kernel
theorem dd_P_isHitBy_9 : decode bb_P_isHitBy 9 = .ok (.iload_n 2, 1) := by decide +kernel
theorem dd_P_isHitBy_10 : decode bb_P_isHitBy 10 = .ok (.invokestatic 25, 3) := by decide +kernel
theorem dd_P_isHitBy_13 : decode bb_P_isHitBy 13 = .ok (.istore 4, 2) := by decide +kernel
theorem dd_P_isHitBy_15 : decode bb_P_isHitBy 15 = .ok (.iload_n 2, 1) := by decide +kernel
theorem dd_P_isHitBy_16 : decode bb_P_isHitBy 16 = .ok (.istore 5, 2) := by decide +kernel
theorem dd_P_isHitBy_18 : decode bb_P_isHitBy 18 = .ok (.iconst 1, 1) := by decide +kernel
theorem dd_P_isHitBy_19 : decode bb_P_isHitBy 19 = .ok (.istore 6, 2) := by decide +kernel
theorem dd_P_isHitBy_21 : decode bb_P_isHitBy 21 = .ok (.iconst 1, 1) := by decide +kernel
theorem dd_P_isHitBy_22 : decode bb_P_isHitBy 22 = .ok (.istore 7, 2) := by decide +kernel
theorem dd_P_isHitBy_24 : decode bb_P_isHitBy 24 = .ok (.iload 7, 2) := by decide +kernel
theorem dd_P_isHitBy_26 : decode bb_P_isHitBy 26 = .ok (.iload 4, 2) := by decide +kernel
theorem dd_P_isHitBy_28 : decode bb_P_isHitBy 28 = .ok (.if_icmp .gt 70, 3) := by decide +kernel
theorem dd_P_isHitBy_31 : decode bb_P_isHitBy 31 = .ok (.iload 6, 2) := by decide +kernel
theorem dd_P_isHitBy_33 : decode bb_P_isHitBy 33 = .ok (.ifCond .eq 65, 3) := by decide +kernel
theorem dd_P_isHitBy_36 : decode bb_P_isHitBy 36 = .ok (.iload 5, 2) := by decide +kernel
theorem dd_P_isHitBy_38 : decode bb_P_isHitBy 38 = .ok (.getstatic 29, 3) := by decide +kernel
theorem dd_P_isHitBy_41 : decode bb_P_isHitBy 41 = .ok (.iload_n 3, 1) := by decide +kernel
theorem dd_P_isHitBy_42 : decode bb_P_isHitBy 42 = .ok (.iaload, 1) := by decide +kernel
theorem dd_P_isHitBy_43 : decode bb_P_isHitBy 43 = .ok (.iadd, 1) := by decide +kernel
theorem dd_P_isHitBy_44 : decode bb_P_isHitBy 44 = .ok (.istore 5, 2) := by decide +kernel
theorem dd_P_isHitBy_46 : decode bb_P_isHitBy 46 = .ok (.aload_n 0, 1) := by decide +kernel
theorem dd_P_isHitBy_47 : decode bb_P_isHitBy 47 = .ok (.getfield 9, 3) := by decide +kernel
theorem dd_P_isHitBy_50 : decode bb_P_isHitBy 50 = .ok (.iload 5, 2) := by decide +kernel
theorem dd_P_isHitBy_52 : decode bb_P_isHitBy 52 = .ok (.iaload, 1) := by decide +kernel
theorem dd_P_isHitBy_53 : decode bb_P_isHitBy 53 = .ok (.ifCond .ne 7, 3) := by decide +kernel
theorem dd_P_isHitBy_56 : decode bb_P_isHitBy 56 = .ok (.iconst 1, 1) := by decide +kernel
theorem dd_P_isHitBy_57 : decode bb_P_isHitBy 57 = .ok (.goto 4, 3) := by decide +kernel
theorem dd_P_isHitBy_60 : decode bb_P_isHitBy 60 = .ok (.iconst 0, 1) := by decide +kernel
theorem dd_P_isHitBy_61 : decode bb_P_isHitBy 61 = .ok (.istore 6, 2) := by decide +kernel
theorem dd_P_isHitBy_63 : decode bb_P_isHitBy 63 = .ok (.iload 6, 2) := by decide +kernel
theorem dd_P_isHitBy_65 : decode bb_P_isHitBy 65 = .ok (.ifCond .ne 27, 3) := by decide +kernel
theorem dd_P_isHitBy_68 : decode bb_P_isHitBy 68 = .ok (.aload_n 0, 1) := by decide +kernel
theorem dd_P_isHitBy_69 : decode bb_P_isHitBy 69 = .ok (.getfield 9, 3) := by decide +kernel
theorem dd_P_isHitBy_72 : decode bb_P_isHitBy 72 = .ok (.iload 5, 2) := by decide +kernel
theorem dd_P_isHitBy_74 : decode bb_P_isHitBy 74 = .ok (.iaload, 1) := by decide +kernel
theorem dd_P_isHitBy_75 : decode bb_P_isHitBy 75 = .ok (.bipush 6, 2) := by decide +kernel
theorem dd_P_isHitBy_77 : decode bb_P_isHitBy 77 = .ok (.iload_n 1, 1) := by decide +kernel
theorem dd_P_isHitBy_78 : decode bb_P_isHitBy 78 = .ok (.imul, 1) := by decide +kernel
theorem dd_P_isHitBy_79 : decode bb_P_isHitBy 79 = .ok (.isub, 1) := by decide +kernel
theorem dd_P_isHitBy_80 : decode bb_P_isHitBy 80 = .ok (.iload_n 1, 1) := by decide +kernel
theorem dd_P_isHitBy_81 : decode bb_P_isHitBy 81 = .ok (.iload_n 3, 1) := by decide +kernel
theorem dd_P_isHitBy_82 : decode bb_P_isHitBy 82 = .ok (.iload 7, 2) := by decide +kernel
theorem dd_P_isHitBy_84 : decode bb_P_isHitBy 84 = .ok (.invokestatic 32, 3) := by decide +kernel
theorem dd_P_isHitBy_87 : decode bb_P_isHitBy 87 = .ok (.ifCond .eq 5, 3) := by decide +kernel
theorem dd_P_isHitBy_90 : decode bb_P_isHitBy 90 = .ok (.iconst 1, 1) := by decide +kernel
theorem dd_P_isHitBy_91 : decode bb_P_isHitBy 91 = .ok (.ireturn, 1) := by decide +kernel
theorem dd_P_isHitBy_92 : decode bb_P_isHitBy 92 = .ok (.iinc 7 1, 3) := by decide +kernel
theorem dd_P_isHitBy_95 : decode bb_P_isHitBy 95 = .ok (.goto (-71), 3) := by decide +kernel
theorem dd_P_isHitBy_98 : decode bb_P_isHitBy 98 = .ok (.iinc 3 1, 3) := by decide +kernel
theorem dd_P_isHitBy_101 : decode bb_P_isHitBy 101 = .ok (.goto (-99), 3) := by decide +kernel
theorem dd_P_isHitBy_104 : decode bb_P_isHitBy 104 = .ok (.iconst 2, 1) := by decide +kernel
theorem dd_P_isHitBy_105 : decode bb_P_isHitBy 105 = .ok (.bipush 6, 2) := by decide +kernel
theorem dd_P_isHitBy_107 : decode bb_P_isHitBy 107 = .ok (.iload_n 1, 1) := by decide +kernel
theorem dd_P_isHitBy_108 : decode bb_P_isHitBy 108 = .ok (.imul, 1) := by decide +kernel
theorem dd_P_isHitBy_109 : decode bb_P_isHitBy 109 = .ok (.iadd, 1) := by decide +kernel
theorem dd_P_isHitBy_110 : decode bb_P_isHitBy 110 = .ok (.istore_n 3, 1) := by decide +kernel
theorem dd_P_isHitBy_111 : decode bb_P_isHitBy 111 = .ok (.iconst 0, 1) := by decide +kernel
theorem dd_P_isHitBy_112 : decode bb_P_isHitBy 112 = .ok (.istore 4, 2) := by decide +kernel
theorem dd_P_isHitBy_114 : decode bb_P_isHitBy 114 = .ok (.iload 4, 2) := by decide +kernel
theorem dd_P_isHitBy_116 : decode bb_P_isHitBy 116 = .ok (.bipush 8, 2) := by decide +kernel
theorem dd_P_isHitBy_118 : decode bb_P_isHitBy 118 = .ok (.if_icmp .ge 36, 3) := by decide +kernel
theorem dd_P_isHitBy_121 : decode bb_P_isHitBy 121 = .ok (.iload 4, 2) := by decide +kernel
theorem dd_P_isHitBy_123 : decode bb_P_isHitBy 123 = .ok (.iload_n 2, 1) := by decide +kernel
theorem dd_P_isHitBy_124 : decode bb_P_isHitBy 124 = .ok (.invokestatic 36, 3) := by decide +kernel
theorem dd_P_isHitBy_127 : decode bb_P_isHitBy 127 = .ok (.istore 5, 2) := by decide +kernel
theorem dd_P_isHitBy_129 : decode bb_P_isHitBy 129 = .ok (.iload 5, 2) := by decide +kernel
theorem dd_P_isHitBy_131 : decode bb_P_isHitBy 131 = .ok (.iconst (-1), 1) := by decide +kernel
theorem dd_P_isHitBy_132 : decode bb_P_isHitBy 132 = .ok (.if_icmp .eq 16, 3) := by decide +kernel
theorem dd_P_isHitBy_135 : decode bb_P_isHitBy 135 = .ok (.aload_n 0, 1) := by decide +kernel
theorem dd_P_isHitBy_136 : decode bb_P_isHitBy 136 = .ok (.getfield 9, 3) := by decide +kernel
theorem dd_P_isHitBy_139 : decode bb_P_isHitBy 139 = .ok (.iload 5, 2) := by decide +kernel
theorem dd_P_isHitBy_141 : decode bb_P_isHitBy 141 = .ok (.iaload, 1) := by decide +kernel
theorem dd_P_isHitBy_142 : decode bb_P_isHitBy 142 = .ok (.iload_n 3, 1) := by decide +kernel
theorem dd_P_isHitBy_143 : decode bb_P_isHitBy 143 = .ok (.if_icmp .ne 5, 3) := by decide +kernel
theorem dd_P_isHitBy_146 : decode bb_P_isHitBy 146 = .ok (.iconst 1, 1) := by decide +kernel
theorem dd_P_isHitBy_147 : decode bb_P_isHitBy 147 = .ok (.ireturn, 1) := by decide +kernel
theorem dd_P_isHitBy_148 : decode bb_P_isHitBy 148 = .ok (.iinc 4 1, 3) := by decide +kernel
theorem dd_P_isHitBy_151 : decode bb_P_isHitBy 151 = .ok (.goto (-37), 3) := by decide +kernel
theorem dd_P_isHitBy_154 : decode bb_P_isHitBy 154 = .ok (.iconst 0, 1) := by decide +kernel
theorem dd_P_isHitBy_155 : decode bb_P_isHitBy 155 = .ok (.ireturn, 1) := by decide +kernel
abbrev ty_P_isHitBy : Type := Int32
noncomputable def bk_P_isHitBy_148 (sq : Nat → Int32) (a1 : Int32) (a2 : Int32) (k114 : Int32 → Int32 → Option ty_P_isHitBy) (x3 : Int32) (x4 : Int32) : Option ty_P_isHitBy := qq_let (x4 + 1) fun v1001 => k114 x3 v1001
noncomputable def lo_P_isHitBy_114 (sq : Nat → Int32) (a1 : Int32) (a2 : Int32) : Nat → Int32 → Int32 → Option ty_P_isHitBy
  | 0, _, _ => none
  | n + 1, x3, x4 => if 8 ≤ x4 then (some (0 : Int32)) else ((fn_P_squareByJump x4 a2).bind fun r2001 => if r2001 = (-1) then (bk_P_isHitBy_148 sq a1 a2 (lo_P_isHitBy_114 sq a1 a2 n) x3 x4) else (qq_ck (qq_in r2001 64) <| if (sq r2001.toNatClampNeg) = x3 then (some (1 : Int32)) else (bk_P_isHitBy_148 sq a1 a2 (lo_P_isHitBy_114 sq a1 a2 n) x3 x4)))
theorem lo_P_isHitBy_114_z (sq : Nat → Int32) (a1 : Int32) (a2 : Int32) (x3 : Int32) (x4 : Int32) : lo_P_isHitBy_114 sq a1 a2 0 x3 x4 = none := rfl
theorem lo_P_isHitBy_114_s (sq : Nat → Int32) (a1 : Int32) (a2 : Int32) (x3 : Int32) (x4 : Int32) (n : Nat) : lo_P_isHitBy_114 sq a1 a2 (n + 1) x3 x4 = (if 8 ≤ x4 then (some (0 : Int32)) else ((fn_P_squareByJump x4 a2).bind fun r2001 => if r2001 = (-1) then (bk_P_isHitBy_148 sq a1 a2 (lo_P_isHitBy_114 sq a1 a2 n) x3 x4) else (qq_ck (qq_in r2001 64) <| if (sq r2001.toNatClampNeg) = x3 then (some (1 : Int32)) else (bk_P_isHitBy_148 sq a1 a2 (lo_P_isHitBy_114 sq a1 a2 n) x3 x4)))) := rfl
noncomputable def bk_P_isHitBy_98 (sq : Nat → Int32) (a1 : Int32) (a2 : Int32) (k2 : Int32 → Option ty_P_isHitBy) (x3 : Int32) : Option ty_P_isHitBy := qq_let (x3 + 1) fun v3001 => k2 v3001
noncomputable def bk_P_isHitBy_92 (sq : Nat → Int32) (a1 : Int32) (a2 : Int32) (k2 : Int32 → Option ty_P_isHitBy) (k24 : Int32 → Int32 → Int32 → Int32 → Int32 → Option ty_P_isHitBy) (x3 : Int32) (x4 : Int32) (x5 : Int32) (x6 : Int32) (x7 : Int32) : Option ty_P_isHitBy := qq_let (x7 + 1) fun v4001 => k24 x3 x4 x5 x6 v4001
noncomputable def bk_P_isHitBy_61 (sq : Nat → Int32) (a1 : Int32) (a2 : Int32) (k2 : Int32 → Option ty_P_isHitBy) (k24 : Int32 → Int32 → Int32 → Int32 → Int32 → Option ty_P_isHitBy) (x3 : Int32) (x4 : Int32) (x5 : Int32) (x7 : Int32) (s0 : Int32) : Option ty_P_isHitBy := if s0 = 0 then (qq_ck (qq_in x5 64) <| (fn_P_comesAlong ((sq x5.toNatClampNeg) - (6 * a1)) a1 x3 x7).bind fun r5002 => if r5002 = 0 then (bk_P_isHitBy_92 sq a1 a2 k2 k24 x3 x4 x5 s0 x7) else (some (1 : Int32))) else (bk_P_isHitBy_92 sq a1 a2 k2 k24 x3 x4 x5 s0 x7)
noncomputable def lo_P_isHitBy_24 (sq : Nat → Int32) (a1 : Int32) (a2 : Int32) (k2 : Int32 → Option ty_P_isHitBy) : Nat → Int32 → Int32 → Int32 → Int32 → Int32 → Option ty_P_isHitBy
  | 0, _, _, _, _, _ => none
  | n + 1, x3, x4, x5, x6, x7 => if x4 < x7 then (bk_P_isHitBy_98 sq a1 a2 k2 x3) else (if x6 = 0 then (bk_P_isHitBy_98 sq a1 a2 k2 x3) else (qq_ck (qq_in x3 8) <| qq_let (x5 + (tb_WAY_STEPS x3.toNatClampNeg)) fun v6002 => qq_ck (qq_in v6002 64) <| if (sq v6002.toNatClampNeg) = 0 then (bk_P_isHitBy_61 sq a1 a2 k2 (lo_P_isHitBy_24 sq a1 a2 k2 n) x3 x4 v6002 x7 1) else (bk_P_isHitBy_61 sq a1 a2 k2 (lo_P_isHitBy_24 sq a1 a2 k2 n) x3 x4 v6002 x7 0)))
theorem lo_P_isHitBy_24_z (sq : Nat → Int32) (a1 : Int32) (a2 : Int32) (k2 : Int32 → Option ty_P_isHitBy) (x3 : Int32) (x4 : Int32) (x5 : Int32) (x6 : Int32) (x7 : Int32) : lo_P_isHitBy_24 sq a1 a2 k2 0 x3 x4 x5 x6 x7 = none := rfl
theorem lo_P_isHitBy_24_s (sq : Nat → Int32) (a1 : Int32) (a2 : Int32) (k2 : Int32 → Option ty_P_isHitBy) (x3 : Int32) (x4 : Int32) (x5 : Int32) (x6 : Int32) (x7 : Int32) (n : Nat) : lo_P_isHitBy_24 sq a1 a2 k2 (n + 1) x3 x4 x5 x6 x7 = (if x4 < x7 then (bk_P_isHitBy_98 sq a1 a2 k2 x3) else (if x6 = 0 then (bk_P_isHitBy_98 sq a1 a2 k2 x3) else (qq_ck (qq_in x3 8) <| qq_let (x5 + (tb_WAY_STEPS x3.toNatClampNeg)) fun v6002 => qq_ck (qq_in v6002 64) <| if (sq v6002.toNatClampNeg) = 0 then (bk_P_isHitBy_61 sq a1 a2 k2 (lo_P_isHitBy_24 sq a1 a2 k2 n) x3 x4 v6002 x7 1) else (bk_P_isHitBy_61 sq a1 a2 k2 (lo_P_isHitBy_24 sq a1 a2 k2 n) x3 x4 v6002 x7 0)))) := rfl
noncomputable def lo_P_isHitBy_2 (sq : Nat → Int32) (a1 : Int32) (a2 : Int32) : Nat → Int32 → Option ty_P_isHitBy
  | 0, _ => none
  | n + 1, x3 => if 8 ≤ x3 then (qq_let (2 + (6 * a1)) fun v7001 => lo_P_isHitBy_114 sq a1 a2 qq_FU v7001 0) else ((fn_P_stepsToBorder x3 a2).bind fun r7002 => lo_P_isHitBy_24 sq a1 a2 (lo_P_isHitBy_2 sq a1 a2 n) qq_FU x3 r7002 a2 1 1)
theorem lo_P_isHitBy_2_z (sq : Nat → Int32) (a1 : Int32) (a2 : Int32) (x3 : Int32) : lo_P_isHitBy_2 sq a1 a2 0 x3 = none := rfl
theorem lo_P_isHitBy_2_s (sq : Nat → Int32) (a1 : Int32) (a2 : Int32) (x3 : Int32) (n : Nat) : lo_P_isHitBy_2 sq a1 a2 (n + 1) x3 = (if 8 ≤ x3 then (qq_let (2 + (6 * a1)) fun v7001 => lo_P_isHitBy_114 sq a1 a2 qq_FU v7001 0) else ((fn_P_stepsToBorder x3 a2).bind fun r7002 => lo_P_isHitBy_24 sq a1 a2 (lo_P_isHitBy_2 sq a1 a2 n) qq_FU x3 r7002 a2 1 1)) := rfl
noncomputable def fn_P_isHitBy (sq : Nat → Int32) (a1 : Int32) (a2 : Int32) : Option ty_P_isHitBy := lo_P_isHitBy_2 sq a1 a2 qq_FU 0
abbrev rm_P_isHitBy : Room := { frames := 1, cells := 0, slots := 0, locals := 25 }
set_option maxHeartbeats 4000000 in
set_option maxRecDepth 100000 in
theorem ct_P_isHitBy (l : Launch) (dC : Nat → ClassId) (dI : Nat → Nat → Nat) (cI cL cR : ClassId) (oP osq okg : Nat) (sd : Int32) (rt : Int32) (ps : Int32) (sq : Nat → Int32) (kg : Nat → Int32) (a1 : Int32) (a2 : Int32) {rr : Int32} (hf : fn_P_isHitBy sq a1 a2 = some rr) : qq_det l yy_P_isHitBy (ww_of yy_P_isHitBy bb_P_isHitBy 8 (some .boolean)) rm_P_isHitBy (dC, dI) (qq_ty cI cL cR) [.ref oP, .int a1, .int a2] [(oP, .inr (1, [.ref osq, .ref okg, .int sd, .int rt, .int ps])), (osq, .inl (cI, 64, .inl sq)), (okg, .inl (cI, 2, .inl kg))] (some (.int rr)) [(oP, .inr (1, [.ref osq, .ref okg, .int sd, .int rt, .int ps])), (osq, .inl (cI, 64, .inl sq)), (okg, .inl (cI, 2, .inl kg))] := by
  refine qq_of (own := RR_P) (by decide) rfl (Nat.le_of_ble_eq_true rfl) ?_
  intro p e s m below meth c A Q ls hx hb hml hr hlocks hown hts hK hA hT hN hP hD hS hl hQ
  have hl : lv_has ls 8 [(0, .ref oP), (1, .int a1), (2, .int a2)] := hl
  obtain ⟨t_WAY_STEPS, hZ_WAY_STEPS, hT_WAY_STEPS⟩ := qq_T3 hT
  have hL114 : ∀ (n114 : Nat) (x3 : Int32) (x4 : Int32) (H : Heap) (locs : List Loc) (ls : Array Slot), lv_has ls 8 [(0, .ref oP), (2, .int a2), (3, .int x3), (4, .int x4)] → va_P (dC, dI) classes [(oP, .inr (1, [.ref osq, .ref okg, .int sd, .int rt, .int ps])), (osq, .inl (cI, 64, .inl sq)), (okg, .inl (cI, 2, .inl kg))] H → va_D A [(oP, .inr (1, [.ref osq, .ref okg, .int sd, .int rt, .int ps])), (osq, .inl (cI, 64, .inl sq)), (okg, .inl (cI, 2, .inl kg))] → va_S A s.heap H locs → lo_P_isHitBy_114 sq a1 a2 n114 x3 x4 = some rr → W p l e rm_P_isHitBy s m ([.ref oP, .int a1, .int a2] : List Value).toArray below meth c H locs 0 0 Q (F0 m 114 ls []) := by
    intro n114
    induction n114 with
    | zero => exact fun x3 x4 H locs ls hl hP hD hS hf => absurd hf (by rw [lo_P_isHitBy_114_z]; exact fun h => by cases h)
    | succ n114 ih114 =>
      have hJ148 : ∀ (x3 : Int32) (x4 : Int32) (H : Heap) (locs : List Loc) (ls : Array Slot), lv_has ls 8 [(0, .ref oP), (2, .int a2), (3, .int x3), (4, .int x4)] → va_P (dC, dI) classes [(oP, .inr (1, [.ref osq, .ref okg, .int sd, .int rt, .int ps])), (osq, .inl (cI, 64, .inl sq)), (okg, .inl (cI, 2, .inl kg))] H → va_D A [(oP, .inr (1, [.ref osq, .ref okg, .int sd, .int rt, .int ps])), (osq, .inl (cI, 64, .inl sq)), (okg, .inl (cI, 2, .inl kg))] → va_S A s.heap H locs → bk_P_isHitBy_148 sq a1 a2 (lo_P_isHitBy_114 sq a1 a2 n114) x3 x4 = some rr → W p l e rm_P_isHitBy s m ([.ref oP, .int a1, .int a2] : List Value).toArray below meth c H locs 0 0 Q (F0 m 148 ls []) := by
        intro x3 x4 H locs ls hl hP hD hS hf
        rw [bk_P_isHitBy_148] at hf
        obtain ⟨v1001, ev1001⟩ : ∃ z, z = x4 + 1 := ⟨_, rfl⟩
        replace hf := qq_lt ev1001 hf
        refine lv_iinc (k := 3) (v := v1001) (lv' := [(4, .int v1001), (0, .ref oP), (2, .int a2), (3, .int x3)]) hx hb dd_P_isHitBy_148 hl rfl (by rw [ev1001]; exact congrArg _ (by decide)) (by decide) rfl (fun ls hl => ?_)
        refine lv_goto (tgt := 114) hx hb dd_P_isHitBy_151 (by decide) ?_
        exact ih114 x3 v1001 _ _ _ (lv_sub hl [1, 2, 3, 0] rfl) hP hD hS hf
      intro x3 x4 H locs ls hl hP hD hS hf
      rw [lo_P_isHitBy_114_s] at hf
      refine lv_iload hx hb dd_P_isHitBy_114 (lv_at hl 3 rfl) ?_
      refine lv_bipush (v := 8) hx hb dd_P_isHitBy_116 (by decide) ?_
      refine lv_icmp_ge (tgt := 154) hx hb dd_P_isHitBy_118 (by decide) (fun hc => ?_) (fun hc => ?_)
      · replace hf := qq_t hc hf
        refine lv_iconst (v := 0) hx hb dd_P_isHitBy_154 (by decide) ?_
        cases hf
        exact qq_zret hx hb hr rfl hlocks hQ hP hD hK hS dd_P_isHitBy_155
      · replace hf := qq_f hc hf
        refine lv_iload hx hb dd_P_isHitBy_121 (lv_at hl 3 rfl) ?_
        refine lv_iload_n hx hb dd_P_isHitBy_123 rfl (lv_at hl 1 rfl) ?_
        obtain ⟨r2001, hy2001, hf⟩ := qq_bd hf
        refine qq_S (As := [.int x4, .int a2]) (rest := []) (wr := [(oP, .inr (1, [.ref osq, .ref okg, .int sd, .int rt, .int ps])), (osq, .inl (cI, 64, .inl sq)), (okg, .inl (cI, 2, .inl kg))]) (wf := [(oP, .inr (1, [.ref osq, .ref okg, .int sd, .int rt, .int ps])), (osq, .inl (cI, 64, .inl sq)), (okg, .inl (cI, 2, .inl kg))]) ⟨hx, hb, hml, hown, hts⟩ (ct_P_squareByJump l dC dI cI cL cR x4 a2 hy2001) mm_67 mm_68 mm_66 mm_15 hd_P_squareByJump (by decide) qq_00 hP hD hK hS hA hT hN [] [0, 1, 2] [0, 1, 2] rfl rfl rfl (by decide) rfl hl.1 rfl (Nat.le_of_ble_eq_true rfl) dd_P_isHitBy_124 (fun H locs hP hD hS => ?_)
        refine W.eq (g2 := F0 m 127 ls [.int r2001]) rfl ?_
        refine lv_istore (lv' := [(5, .int r2001), (0, .ref oP), (2, .int a2), (3, .int x3), (4, .int x4)]) hx hb dd_P_isHitBy_127 hl (by decide) rfl (fun ls hl => ?_)
        refine lv_iload hx hb dd_P_isHitBy_129 (lv_at hl 0 rfl) ?_
        refine lv_iconst (v := (-1)) hx hb dd_P_isHitBy_131 (by decide) ?_
        refine lv_icmp_eq (tgt := 148) hx hb dd_P_isHitBy_132 (by decide) (fun hc => ?_) (fun hc => ?_)
        · replace hf := qq_t hc hf
          exact hJ148 x3 x4 _ _ _ (lv_sub hl [1, 2, 3, 4] rfl) hP hD hS hf
        · replace hf := qq_f hc hf
          refine lv_aload_n hx hb dd_P_isHitBy_135 rfl (lv_at hl 1 rfl) ?_
          refine va_get (D := (dC, dI)) (ci := 1) (v := .ref osq) (C := RR_P) (T := FF_P) (N := 5) hx hb hts uu_P hown hK hP 0 rfl rfl 0 (by decide) (hts _ mm_11) (fun _ h9 => h9) rfl dd_P_isHitBy_136 ?_
          refine lv_iload hx hb dd_P_isHitBy_139 (lv_at hl 0 rfl) ?_
          obtain ⟨hi2002, hf⟩ := qq_ckE hf
          refine va_iald (D := (dC, dI)) (f := sq) (n := 64) (cA := cI) hx hb hK hP 1 0 rfl rfl (qq_inE hi2002) dd_P_isHitBy_141 ?_
          refine lv_iload_n hx hb dd_P_isHitBy_142 rfl (lv_at hl 3 rfl) ?_
          refine lv_icmp_ne (tgt := 148) hx hb dd_P_isHitBy_143 (by decide) (fun hc => ?_) (fun hc => ?_)
          · replace hf := qq_f hc hf
            exact hJ148 x3 x4 _ _ _ (lv_sub hl [1, 2, 3, 4] rfl) hP hD hS hf
          · replace hf := qq_t hc hf
            refine lv_iconst (v := 1) hx hb dd_P_isHitBy_146 (by decide) ?_
            cases hf
            exact qq_zret hx hb hr rfl hlocks hQ hP hD hK hS dd_P_isHitBy_147
  have hL2 : ∀ (n2 : Nat) (x3 : Int32) (H : Heap) (locs : List Loc) (ls : Array Slot), lv_has ls 8 [(0, .ref oP), (1, .int a1), (2, .int a2), (3, .int x3)] → va_P (dC, dI) classes [(oP, .inr (1, [.ref osq, .ref okg, .int sd, .int rt, .int ps])), (osq, .inl (cI, 64, .inl sq)), (okg, .inl (cI, 2, .inl kg))] H → va_D A [(oP, .inr (1, [.ref osq, .ref okg, .int sd, .int rt, .int ps])), (osq, .inl (cI, 64, .inl sq)), (okg, .inl (cI, 2, .inl kg))] → va_S A s.heap H locs → lo_P_isHitBy_2 sq a1 a2 n2 x3 = some rr → W p l e rm_P_isHitBy s m ([.ref oP, .int a1, .int a2] : List Value).toArray below meth c H locs 0 0 Q (F0 m 2 ls []) := by
    intro n2
    induction n2 with
    | zero => exact fun x3 H locs ls hl hP hD hS hf => absurd hf (by rw [lo_P_isHitBy_2_z]; exact fun h => by cases h)
    | succ n2 ih2 =>
      have hJ98 : ∀ (x3 : Int32) (H : Heap) (locs : List Loc) (ls : Array Slot), lv_has ls 8 [(0, .ref oP), (1, .int a1), (2, .int a2), (3, .int x3)] → va_P (dC, dI) classes [(oP, .inr (1, [.ref osq, .ref okg, .int sd, .int rt, .int ps])), (osq, .inl (cI, 64, .inl sq)), (okg, .inl (cI, 2, .inl kg))] H → va_D A [(oP, .inr (1, [.ref osq, .ref okg, .int sd, .int rt, .int ps])), (osq, .inl (cI, 64, .inl sq)), (okg, .inl (cI, 2, .inl kg))] → va_S A s.heap H locs → bk_P_isHitBy_98 sq a1 a2 (lo_P_isHitBy_2 sq a1 a2 n2) x3 = some rr → W p l e rm_P_isHitBy s m ([.ref oP, .int a1, .int a2] : List Value).toArray below meth c H locs 0 0 Q (F0 m 98 ls []) := by
        intro x3 H locs ls hl hP hD hS hf
        rw [bk_P_isHitBy_98] at hf
        obtain ⟨v3001, ev3001⟩ : ∃ z, z = x3 + 1 := ⟨_, rfl⟩
        replace hf := qq_lt ev3001 hf
        refine lv_iinc (k := 3) (v := v3001) (lv' := [(3, .int v3001), (0, .ref oP), (1, .int a1), (2, .int a2)]) hx hb dd_P_isHitBy_98 hl rfl (by rw [ev3001]; exact congrArg _ (by decide)) (by decide) rfl (fun ls hl => ?_)
        refine lv_goto (tgt := 2) hx hb dd_P_isHitBy_101 (by decide) ?_
        exact ih2 v3001 _ _ _ (lv_sub hl [1, 2, 3, 0] rfl) hP hD hS hf
      have hL24 : ∀ (n24 : Nat) (x3 : Int32) (x4 : Int32) (x5 : Int32) (x6 : Int32) (x7 : Int32) (H : Heap) (locs : List Loc) (ls : Array Slot), lv_has ls 8 [(0, .ref oP), (1, .int a1), (2, .int a2), (3, .int x3), (4, .int x4), (5, .int x5), (6, .int x6), (7, .int x7)] → va_P (dC, dI) classes [(oP, .inr (1, [.ref osq, .ref okg, .int sd, .int rt, .int ps])), (osq, .inl (cI, 64, .inl sq)), (okg, .inl (cI, 2, .inl kg))] H → va_D A [(oP, .inr (1, [.ref osq, .ref okg, .int sd, .int rt, .int ps])), (osq, .inl (cI, 64, .inl sq)), (okg, .inl (cI, 2, .inl kg))] → va_S A s.heap H locs → lo_P_isHitBy_24 sq a1 a2 (lo_P_isHitBy_2 sq a1 a2 n2) n24 x3 x4 x5 x6 x7 = some rr → W p l e rm_P_isHitBy s m ([.ref oP, .int a1, .int a2] : List Value).toArray below meth c H locs 0 0 Q (F0 m 24 ls []) := by
        intro n24
        induction n24 with
        | zero => exact fun x3 x4 x5 x6 x7 H locs ls hl hP hD hS hf => absurd hf (by rw [lo_P_isHitBy_24_z]; exact fun h => by cases h)
        | succ n24 ih24 =>
          have hJ92 : ∀ (x3 : Int32) (x4 : Int32) (x5 : Int32) (x6 : Int32) (x7 : Int32) (H : Heap) (locs : List Loc) (ls : Array Slot), lv_has ls 8 [(0, .ref oP), (1, .int a1), (2, .int a2), (3, .int x3), (4, .int x4), (5, .int x5), (6, .int x6), (7, .int x7)] → va_P (dC, dI) classes [(oP, .inr (1, [.ref osq, .ref okg, .int sd, .int rt, .int ps])), (osq, .inl (cI, 64, .inl sq)), (okg, .inl (cI, 2, .inl kg))] H → va_D A [(oP, .inr (1, [.ref osq, .ref okg, .int sd, .int rt, .int ps])), (osq, .inl (cI, 64, .inl sq)), (okg, .inl (cI, 2, .inl kg))] → va_S A s.heap H locs → bk_P_isHitBy_92 sq a1 a2 (lo_P_isHitBy_2 sq a1 a2 n2) (lo_P_isHitBy_24 sq a1 a2 (lo_P_isHitBy_2 sq a1 a2 n2) n24) x3 x4 x5 x6 x7 = some rr → W p l e rm_P_isHitBy s m ([.ref oP, .int a1, .int a2] : List Value).toArray below meth c H locs 0 0 Q (F0 m 92 ls []) := by
            intro x3 x4 x5 x6 x7 H locs ls hl hP hD hS hf
            rw [bk_P_isHitBy_92] at hf
            obtain ⟨v4001, ev4001⟩ : ∃ z, z = x7 + 1 := ⟨_, rfl⟩
            replace hf := qq_lt ev4001 hf
            refine lv_iinc (k := 7) (v := v4001) (lv' := [(7, .int v4001), (0, .ref oP), (1, .int a1), (2, .int a2), (3, .int x3), (4, .int x4), (5, .int x5), (6, .int x6)]) hx hb dd_P_isHitBy_92 hl rfl (by rw [ev4001]; exact congrArg _ (by decide)) (by decide) rfl (fun ls hl => ?_)
            refine lv_goto (tgt := 24) hx hb dd_P_isHitBy_95 (by decide) ?_
            exact ih24 x3 x4 x5 x6 v4001 _ _ _ (lv_sub hl [1, 2, 3, 4, 5, 6, 7, 0] rfl) hP hD hS hf
          have hJ61 : ∀ (x3 : Int32) (x4 : Int32) (x5 : Int32) (x7 : Int32) (s0 : Int32) (H : Heap) (locs : List Loc) (ls : Array Slot), lv_has ls 8 [(0, .ref oP), (1, .int a1), (2, .int a2), (3, .int x3), (4, .int x4), (5, .int x5), (7, .int x7)] → va_P (dC, dI) classes [(oP, .inr (1, [.ref osq, .ref okg, .int sd, .int rt, .int ps])), (osq, .inl (cI, 64, .inl sq)), (okg, .inl (cI, 2, .inl kg))] H → va_D A [(oP, .inr (1, [.ref osq, .ref okg, .int sd, .int rt, .int ps])), (osq, .inl (cI, 64, .inl sq)), (okg, .inl (cI, 2, .inl kg))] → va_S A s.heap H locs → bk_P_isHitBy_61 sq a1 a2 (lo_P_isHitBy_2 sq a1 a2 n2) (lo_P_isHitBy_24 sq a1 a2 (lo_P_isHitBy_2 sq a1 a2 n2) n24) x3 x4 x5 x7 s0 = some rr → W p l e rm_P_isHitBy s m ([.ref oP, .int a1, .int a2] : List Value).toArray below meth c H locs 0 0 Q (F0 m 61 ls [.int s0]) := by
            intro x3 x4 x5 x7 s0 H locs ls hl hP hD hS hf
            rw [bk_P_isHitBy_61] at hf
            refine lv_istore (lv' := [(6, .int s0), (0, .ref oP), (1, .int a1), (2, .int a2), (3, .int x3), (4, .int x4), (5, .int x5), (7, .int x7)]) hx hb dd_P_isHitBy_61 hl (by decide) rfl (fun ls hl => ?_)
            refine lv_iload hx hb dd_P_isHitBy_63 (lv_at hl 0 rfl) ?_
            refine lv_if_ne (tgt := 92) hx hb dd_P_isHitBy_65 (by decide) (fun hc => ?_) (fun hc => ?_)
            · replace hf := qq_f hc hf
              exact hJ92 x3 x4 x5 s0 x7 _ _ _ (lv_sub hl [1, 2, 3, 4, 5, 6, 0, 7] rfl) hP hD hS hf
            · replace hf := qq_t hc hf
              refine lv_aload_n hx hb dd_P_isHitBy_68 rfl (lv_at hl 1 rfl) ?_
              refine va_get (D := (dC, dI)) (ci := 1) (v := .ref osq) (C := RR_P) (T := FF_P) (N := 5) hx hb hts uu_P hown hK hP 0 rfl rfl 0 (by decide) (hts _ mm_11) (fun _ h9 => h9) rfl dd_P_isHitBy_69 ?_
              refine lv_iload hx hb dd_P_isHitBy_72 (lv_at hl 6 rfl) ?_
              obtain ⟨hi5001, hf⟩ := qq_ckE hf
              refine va_iald (D := (dC, dI)) (f := sq) (n := 64) (cA := cI) hx hb hK hP 1 0 rfl rfl (qq_inE hi5001) dd_P_isHitBy_74 ?_
              refine lv_bipush (v := 6) hx hb dd_P_isHitBy_75 (by decide) ?_
              refine lv_iload_n hx hb dd_P_isHitBy_77 rfl (lv_at hl 2 rfl) ?_
              refine lv_imul hx hb dd_P_isHitBy_78 ?_
              refine lv_isub hx hb dd_P_isHitBy_79 ?_
              refine lv_iload_n hx hb dd_P_isHitBy_80 rfl (lv_at hl 2 rfl) ?_
              refine lv_iload_n hx hb dd_P_isHitBy_81 rfl (lv_at hl 4 rfl) ?_
              refine lv_iload hx hb dd_P_isHitBy_82 (lv_at hl 7 rfl) ?_
              obtain ⟨r5002, hy5002, hf⟩ := qq_bd hf
              refine qq_S (As := [.int ((sq x5.toNatClampNeg) - (6 * a1)), .int a1, .int x3, .int x7]) (rest := []) (wr := [(oP, .inr (1, [.ref osq, .ref okg, .int sd, .int rt, .int ps])), (osq, .inl (cI, 64, .inl sq)), (okg, .inl (cI, 2, .inl kg))]) (wf := [(oP, .inr (1, [.ref osq, .ref okg, .int sd, .int rt, .int ps])), (osq, .inl (cI, 64, .inl sq)), (okg, .inl (cI, 2, .inl kg))]) ⟨hx, hb, hml, hown, hts⟩ (ct_P_comesAlong l dC dI cI cL cR ((sq x5.toNatClampNeg) - (6 * a1)) a1 x3 x7 hy5002) mm_79 mm_80 mm_78 mm_15 hd_P_comesAlong (by decide) qq_00 hP hD hK hS hA hT hN [] [0, 1, 2] [0, 1, 2] rfl rfl rfl (by decide) rfl hl.1 rfl (Nat.le_of_ble_eq_true rfl) dd_P_isHitBy_84 (fun H locs hP hD hS => ?_)
              refine W.eq (g2 := F0 m 87 ls [.int r5002]) rfl ?_
              refine lv_if_eq (tgt := 92) hx hb dd_P_isHitBy_87 (by decide) (fun hc => ?_) (fun hc => ?_)
              · replace hf := qq_t hc hf
                exact hJ92 x3 x4 x5 s0 x7 _ _ _ (lv_sub hl [1, 2, 3, 4, 5, 6, 0, 7] rfl) hP hD hS hf
              · replace hf := qq_f hc hf
                refine lv_iconst (v := 1) hx hb dd_P_isHitBy_90 (by decide) ?_
                cases hf
                exact qq_zret hx hb hr rfl hlocks hQ hP hD hK hS dd_P_isHitBy_91
          intro x3 x4 x5 x6 x7 H locs ls hl hP hD hS hf
          rw [lo_P_isHitBy_24_s] at hf
          refine lv_iload hx hb dd_P_isHitBy_24 (lv_at hl 7 rfl) ?_
          refine lv_iload hx hb dd_P_isHitBy_26 (lv_at hl 4 rfl) ?_
          refine lv_icmp_gt (tgt := 98) hx hb dd_P_isHitBy_28 (by decide) (fun hc => ?_) (fun hc => ?_)
          · replace hf := qq_t hc hf
            exact hJ98 x3 _ _ _ (lv_sub hl [0, 1, 2, 3] rfl) hP hD hS hf
          · replace hf := qq_f hc hf
            refine lv_iload hx hb dd_P_isHitBy_31 (lv_at hl 6 rfl) ?_
            refine lv_if_eq (tgt := 98) hx hb dd_P_isHitBy_33 (by decide) (fun hc => ?_) (fun hc => ?_)
            · replace hf := qq_t hc hf
              exact hJ98 x3 _ _ _ (lv_sub hl [0, 1, 2, 3] rfl) hP hD hS hf
            · replace hf := qq_f hc hf
              refine lv_iload hx hb dd_P_isHitBy_36 (lv_at hl 5 rfl) ?_
              refine va_gets (C := RR_P) (n := "WAY_STEPS") (d := "[I") (ref := RR_P) hx hb hZ_WAY_STEPS hS hown (hts _ mm_56) (fun _ h9 => h9) dd_P_isHitBy_38 ?_
              refine lv_iload_n hx hb dd_P_isHitBy_41 rfl (lv_at hl 3 rfl) ?_
              obtain ⟨hi6001, hf⟩ := qq_ckE hf
              refine va_ti (v := .int (tb_WAY_STEPS x3.toNatClampNeg)) hx hb hT_WAY_STEPS hS (qq_inE hi6001) rfl dd_P_isHitBy_42 ?_
              refine lv_iadd hx hb dd_P_isHitBy_43 ?_
              refine lv_topi (fun v6002 ev6002 => ?_)
              replace hf := qq_lt ev6002 hf
              refine lv_istore (lv' := [(5, .int v6002), (0, .ref oP), (1, .int a1), (2, .int a2), (3, .int x3), (4, .int x4), (6, .int x6), (7, .int x7)]) hx hb dd_P_isHitBy_44 hl (by decide) rfl (fun ls hl => ?_)
              refine lv_aload_n hx hb dd_P_isHitBy_46 rfl (lv_at hl 1 rfl) ?_
              refine va_get (D := (dC, dI)) (ci := 1) (v := .ref osq) (C := RR_P) (T := FF_P) (N := 5) hx hb hts uu_P hown hK hP 0 rfl rfl 0 (by decide) (hts _ mm_11) (fun _ h9 => h9) rfl dd_P_isHitBy_47 ?_
              refine lv_iload hx hb dd_P_isHitBy_50 (lv_at hl 0 rfl) ?_
              obtain ⟨hi6003, hf⟩ := qq_ckE hf
              refine va_iald (D := (dC, dI)) (f := sq) (n := 64) (cA := cI) hx hb hK hP 1 0 rfl rfl (qq_inE hi6003) dd_P_isHitBy_52 ?_
              refine lv_if_ne (tgt := 60) hx hb dd_P_isHitBy_53 (by decide) (fun hc => ?_) (fun hc => ?_)
              · replace hf := qq_f hc hf
                refine lv_iconst (v := 0) hx hb dd_P_isHitBy_60 (by decide) ?_
                exact hJ61 x3 x4 v6002 x7 0 _ _ _ (lv_sub hl [1, 2, 3, 4, 5, 0, 7] rfl) hP hD hS hf
              · replace hf := qq_t hc hf
                refine lv_iconst (v := 1) hx hb dd_P_isHitBy_56 (by decide) ?_
                refine lv_goto (tgt := 61) hx hb dd_P_isHitBy_57 (by decide) ?_
                exact hJ61 x3 x4 v6002 x7 1 _ _ _ (lv_sub hl [1, 2, 3, 4, 5, 0, 7] rfl) hP hD hS hf
      intro x3 H locs ls hl hP hD hS hf
      rw [lo_P_isHitBy_2_s] at hf
      refine lv_iload_n hx hb dd_P_isHitBy_2 rfl (lv_at hl 3 rfl) ?_
      refine lv_bipush (v := 8) hx hb dd_P_isHitBy_3 (by decide) ?_
      refine lv_icmp_ge (tgt := 104) hx hb dd_P_isHitBy_5 (by decide) (fun hc => ?_) (fun hc => ?_)
      · replace hf := qq_t hc hf
        refine lv_iconst (v := 2) hx hb dd_P_isHitBy_104 (by decide) ?_
        refine lv_bipush (v := 6) hx hb dd_P_isHitBy_105 (by decide) ?_
        refine lv_iload_n hx hb dd_P_isHitBy_107 rfl (lv_at hl 1 rfl) ?_
        refine lv_imul hx hb dd_P_isHitBy_108 ?_
        refine lv_iadd hx hb dd_P_isHitBy_109 ?_
        refine lv_topi (fun v7001 ev7001 => ?_)
        replace hf := qq_lt ev7001 hf
        refine lv_istore_n (lv' := [(3, .int v7001), (0, .ref oP), (1, .int a1), (2, .int a2)]) hx hb dd_P_isHitBy_110 rfl hl (by decide) rfl (fun ls hl => ?_)
        refine lv_iconst (v := 0) hx hb dd_P_isHitBy_111 (by decide) ?_
        refine lv_istore (lv' := [(4, .int 0), (3, .int v7001), (0, .ref oP), (1, .int a1), (2, .int a2)]) hx hb dd_P_isHitBy_112 hl (by decide) rfl (fun ls hl => ?_)
        exact hL114 qq_FU v7001 0 _ _ _ (lv_sub hl [2, 4, 1, 0] rfl) hP hD hS hf
      · replace hf := qq_f hc hf
        refine lv_iload_n hx hb dd_P_isHitBy_8 rfl (lv_at hl 3 rfl) ?_
        refine lv_iload_n hx hb dd_P_isHitBy_9 rfl (lv_at hl 2 rfl) ?_
        obtain ⟨r7002, hy7002, hf⟩ := qq_bd hf
        refine qq_S (As := [.int x3, .int a2]) (rest := []) (wr := [(oP, .inr (1, [.ref osq, .ref okg, .int sd, .int rt, .int ps])), (osq, .inl (cI, 64, .inl sq)), (okg, .inl (cI, 2, .inl kg))]) (wf := [(oP, .inr (1, [.ref osq, .ref okg, .int sd, .int rt, .int ps])), (osq, .inl (cI, 64, .inl sq)), (okg, .inl (cI, 2, .inl kg))]) ⟨hx, hb, hml, hown, hts⟩ (ct_P_stepsToBorder l dC dI cI cL cR x3 a2 hy7002) mm_58 mm_59 mm_57 mm_15 hd_P_stepsToBorder (by decide) qq_00 hP hD hK hS hA hT hN [] [0, 1, 2] [0, 1, 2] rfl rfl rfl (by decide) rfl hl.1 rfl (Nat.le_of_ble_eq_true rfl) dd_P_isHitBy_10 (fun H locs hP hD hS => ?_)
        refine W.eq (g2 := F0 m 13 ls [.int r7002]) rfl ?_
        refine lv_istore (lv' := [(4, .int r7002), (0, .ref oP), (1, .int a1), (2, .int a2), (3, .int x3)]) hx hb dd_P_isHitBy_13 hl (by decide) rfl (fun ls hl => ?_)
        refine lv_iload_n hx hb dd_P_isHitBy_15 rfl (lv_at hl 3 rfl) ?_
        refine lv_istore (lv' := [(5, .int a2), (4, .int r7002), (0, .ref oP), (1, .int a1), (2, .int a2), (3, .int x3)]) hx hb dd_P_isHitBy_16 hl (by decide) rfl (fun ls hl => ?_)
        refine lv_iconst (v := 1) hx hb dd_P_isHitBy_18 (by decide) ?_
        refine lv_istore (lv' := [(6, .int 1), (5, .int a2), (4, .int r7002), (0, .ref oP), (1, .int a1), (2, .int a2), (3, .int x3)]) hx hb dd_P_isHitBy_19 hl (by decide) rfl (fun ls hl => ?_)
        refine lv_iconst (v := 1) hx hb dd_P_isHitBy_21 (by decide) ?_
        refine lv_istore (lv' := [(7, .int 1), (6, .int 1), (5, .int a2), (4, .int r7002), (0, .ref oP), (1, .int a1), (2, .int a2), (3, .int x3)]) hx hb dd_P_isHitBy_22 hl (by decide) rfl (fun ls hl => ?_)
        exact hL24 qq_FU x3 r7002 a2 1 1 _ _ _ (lv_sub hl [4, 5, 6, 7, 3, 2, 1, 0] rfl) hP hD hS hf
  rw [fn_P_isHitBy] at hf
  refine lv_iconst (v := 0) hx hb dd_P_isHitBy_0 (by decide) ?_
  refine lv_istore_n (lv' := [(3, .int 0), (0, .ref oP), (1, .int a1), (2, .int a2)]) hx hb dd_P_isHitBy_1 rfl hl (by decide) rfl (fun ls hl => ?_)
  exact hL2 qq_FU 0 _ _ _ (lv_sub hl [1, 2, 3, 0] rfl) hP hD hS hf
theorem dd_P_castlingTargets_0 : decode bb_P_castlingTargets 0 = .ok (.aload_n 0, 1) := by decide +kernel
theorem dd_P_castlingTargets_1 : decode bb_P_castlingTargets 1 = .ok (.getfield 15, 3) := by decide +kernel
theorem dd_P_castlingTargets_4 : decode bb_P_castlingTargets 4 = .ok (.aload_n 0, 1) := by decide +kernel
theorem dd_P_castlingTargets_5 : decode bb_P_castlingTargets 5 = .ok (.getfield 68, 3) := by decide +kernel
theorem dd_P_castlingTargets_8 : decode bb_P_castlingTargets 8 = .ok (.iaload, 1) := by decide +kernel
theorem dd_P_castlingTargets_9 : decode bb_P_castlingTargets 9 = .ok (.istore_n 1, 1) := by decide +kernel
theorem dd_P_castlingTargets_10 : decode bb_P_castlingTargets 10 = .ok (.aload_n 0, 1) := by decide +kernel
theorem dd_P_castlingTargets_11 : decode bb_P_castlingTargets 11 = .ok (.iconst 0, 1) := by decide +kernel
theorem dd_P_castlingTargets_12 : decode bb_P_castlingTargets 12 = .ok (.invokevirtual 141, 3) := by decide +kernel
theorem dd_P_castlingTargets_15 : decode bb_P_castlingTargets 15 = .ok (.ifCond .eq 20, 3) := by decide +kernel
theorem dd_P_castlingTargets_18 : decode bb_P_castlingTargets 18 = .ok (.aload_n 0, 1) := by decide +kernel
theorem dd_P_castlingTargets_19 : decode bb_P_castlingTargets 19 = .ok (.iload_n 1, 1) := by decide +kernel
theorem dd_P_castlingTargets_20 : decode bb_P_castlingTargets 20 = .ok (.iconst 1, 1) := by decide +kernel
theorem dd_P_castlingTargets_21 : decode bb_P_castlingTargets 21 = .ok (.iadd, 1) := by decide +kernel
theorem dd_P_castlingTargets_22 : decode bb_P_castlingTargets 22 = .ok (.iload_n 1, 1) := by decide +kernel
theorem dd_P_castlingTargets_23 : decode bb_P_castlingTargets 23 = .ok (.iconst 2, 1) := by decide +kernel
theorem dd_P_castlingTargets_24 : decode bb_P_castlingTargets 24 = .ok (.iadd, 1) := by decide +kernel
theorem dd_P_castlingTargets_25 : decode bb_P_castlingTargets 25 = .ok (.invokevirtual 144, 3) := by decide +kernel
theorem dd_P_castlingTargets_28 : decode bb_P_castlingTargets 28 = .ok (.ifCond .eq 7, 3) := by decide +kernel
theorem dd_P_castlingTargets_31 : decode bb_P_castlingTargets 31 = .ok (.iconst 1, 1) := by decide +kernel
theorem dd_P_castlingTargets_32 : decode bb_P_castlingTargets 32 = .ok (.goto 4, 3) := by decide +kernel
theorem dd_P_castlingTargets_35 : decode bb_P_castlingTargets 35 = .ok (.iconst 0, 1) := by decide +kernel
theorem dd_P_castlingTargets_36 : decode bb_P_castlingTargets 36 = .ok (.istore_n 2, 1) := by decide +kernel
theorem dd_P_castlingTargets_37 : decode bb_P_castlingTargets 37 = .ok (.aload_n 0, 1) := by decide +kernel
theorem dd_P_castlingTargets_38 : decode bb_P_castlingTargets 38 = .ok (.iconst 1, 1) := by decide +kernel
theorem dd_P_castlingTargets_39 : decode bb_P_castlingTargets 39 = .ok (.invokevirtual 141, 3) := by decide +kernel
theorem dd_P_castlingTargets_42 : decode bb_P_castlingTargets 42 = .ok (.ifCond .eq 20, 3) := by decide +kernel
theorem dd_P_castlingTargets_45 : decode bb_P_castlingTargets 45 = .ok (.aload_n 0, 1) := by decide +kernel
theorem dd_P_castlingTargets_46 : decode bb_P_castlingTargets 46 = .ok (.iload_n 1, 1) := by decide +kernel
theorem dd_P_castlingTargets_47 : decode bb_P_castlingTargets 47 = .ok (.iconst 3, 1) := by decide +kernel
theorem dd_P_castlingTargets_48 : decode bb_P_castlingTargets 48 = .ok (.isub, 1) := by decide +kernel
theorem dd_P_castlingTargets_49 : decode bb_P_castlingTargets 49 = .ok (.iload_n 1, 1) := by decide +kernel
theorem dd_P_castlingTargets_50 : decode bb_P_castlingTargets 50 = .ok (.iconst 1, 1) := by decide +kernel
theorem dd_P_castlingTargets_51 : decode bb_P_castlingTargets 51 = .ok (.isub, 1) := by decide +kernel
theorem dd_P_castlingTargets_52 : decode bb_P_castlingTargets 52 = .ok (.invokevirtual 144, 3) := by decide +kernel
theorem dd_P_castlingTargets_55 : decode bb_P_castlingTargets 55 = .ok (.ifCond .eq 7, 3) := by decide +kernel
theorem dd_P_castlingTargets_58 : decode bb_P_castlingTargets 58 = .ok (.iconst 1, 1) := by decide +kernel
theorem dd_P_castlingTargets_59 : decode bb_P_castlingTargets 59 = .ok (.goto 4, 3) := by decide +kernel
theorem dd_P_castlingTargets_62 : decode bb_P_castlingTargets 62 = .ok (.iconst 0, 1) := by decide +kernel
theorem dd_P_castlingTargets_63 : decode bb_P_castlingTargets 63 = .ok (.istore_n 3, 1) := by decide +kernel
theorem dd_P_castlingTargets_64 : decode bb_P_castlingTargets 64 = .ok (.iload_n 2, 1) := by decide +kernel
theorem dd_P_castlingTargets_65 : decode bb_P_castlingTargets 65 = .ok (.ifCond .ne 7, 3) := by decide +kernel
theorem dd_P_castlingTargets_68 : decode bb_P_castlingTargets 68 = .ok (.iload_n 3, 1) := by decide +kernel
theorem dd_P_castlingTargets_69 : decode bb_P_castlingTargets 69 = .ok (.ifCond .eq 17, 3) := by decide +kernel
theorem dd_P_castlingTargets_72 : decode bb_P_castlingTargets 72 = .ok (.aload_n 0, 1) := by decide +kernel
theorem dd_P_castlingTargets_73 : decode bb_P_castlingTargets 73 = .ok (.iconst 1, 1) := by decide +kernel
theorem dd_P_castlingTargets_74 : decode bb_P_castlingTargets 74 = .ok (.aload_n 0, 1) := by decide +kernel
theorem dd_P_castlingTargets_75 : decode bb_P_castlingTargets 75 = .ok (.getfield 68, 3) := by decide +kernel
theorem dd_P_castlingTargets_78 : decode bb_P_castlingTargets 78 = .ok (.isub, 1) := by decide +kernel
theorem dd_P_castlingTargets_79 : decode bb_P_castlingTargets 79 = .ok (.iload_n 1, 1) := by decide +kernel
theorem dd_P_castlingTargets_80 : decode bb_P_castlingTargets 80 = .ok (.invokevirtual 21, 3) := by decide +kernel
theorem dd_P_castlingTargets_83 : decode bb_P_castlingTargets 83 = .ok (.ifCond .eq 5, 3) := by decide +kernel
theorem dd_P_castlingTargets_86 : decode bb_P_castlingTargets 86 = .ok (.lconst 0, 1) := by decide +kernel
theorem dd_P_castlingTargets_87 : decode bb_P_castlingTargets 87 = .ok (.lreturn, 1) := by decide +kernel
theorem dd_P_castlingTargets_88 : decode bb_P_castlingTargets 88 = .ok (.lconst 0, 1) := by decide +kernel
theorem dd_P_castlingTargets_89 : decode bb_P_castlingTargets 89 = .ok (.lstore 4, 2) := by decide +kernel
theorem dd_P_castlingTargets_91 : decode bb_P_castlingTargets 91 = .ok (.iload_n 2, 1) := by decide +kernel
theorem dd_P_castlingTargets_92 : decode bb_P_castlingTargets 92 = .ok (.ifCond .eq 29, 3) := by decide +kernel
theorem dd_P_castlingTargets_95 : decode bb_P_castlingTargets 95 = .ok (.aload_n 0, 1) := by decide +kernel
theorem dd_P_castlingTargets_96 : decode bb_P_castlingTargets 96 = .ok (.iconst 1, 1) := by decide +kernel
theorem dd_P_castlingTargets_97 : decode bb_P_castlingTargets 97 = .ok (.aload_n 0, 1) := by decide +kernel
theorem dd_P_castlingTargets_98 : decode bb_P_castlingTargets 98 = .ok (.getfield 68, 3) := by decide +kernel
theorem dd_P_castlingTargets_101 : decode bb_P_castlingTargets 101 = .ok (.isub, 1) := by decide +kernel
theorem dd_P_castlingTargets_102 : decode bb_P_castlingTargets 102 = .ok (.iload_n 1, 1) := by decide +kernel
theorem dd_P_castlingTargets_103 : decode bb_P_castlingTargets 103 = .ok (.iconst 1, 1) := by decide +kernel
theorem dd_P_castlingTargets_104 : decode bb_P_castlingTargets 104 = .ok (.iadd, 1) := by decide +kernel
theorem dd_P_castlingTargets_105 : decode bb_P_castlingTargets 105 = .ok (.invokevirtual 21, 3) := by decide +kernel
theorem dd_P_castlingTargets_108 : decode bb_P_castlingTargets 108 = .ok (.ifCond .ne 13, 3) := by decide +kernel
theorem dd_P_castlingTargets_111 : decode bb_P_castlingTargets 111 = .ok (.lload 4, 2) := by decide +kernel
theorem dd_P_castlingTargets_113 : decode bb_P_castlingTargets 113 = .ok (.lconst 1, 1) := by decide +kernel
theorem dd_P_castlingTargets_114 : decode bb_P_castlingTargets 114 = .ok (.iload_n 1, 1) := by decide +kernel
theorem dd_P_castlingTargets_115 : decode bb_P_castlingTargets 115 = .ok (.iconst 2, 1) := by decide +kernel
theorem dd_P_castlingTargets_116 : decode bb_P_castlingTargets 116 = .ok (.iadd, 1) := by decide +kernel
theorem dd_P_castlingTargets_117 : decode bb_P_castlingTargets 117 = .ok (.lshl, 1) := by decide +kernel
theorem dd_P_castlingTargets_118 : decode bb_P_castlingTargets 118 = .ok (.lor, 1) := by decide +kernel
theorem dd_P_castlingTargets_119 : decode bb_P_castlingTargets 119 = .ok (.lstore 4, 2) := by decide +kernel
theorem dd_P_castlingTargets_121 : decode bb_P_castlingTargets 121 = .ok (.iload_n 3, 1) := by decide +kernel
theorem dd_P_castlingTargets_122 : decode bb_P_castlingTargets 122 = .ok (.ifCond .eq 29, 3) := by decide +kernel
theorem dd_P_castlingTargets_125 : decode bb_P_castlingTargets 125 = .ok (.aload_n 0, 1) := by decide +kernel
theorem dd_P_castlingTargets_126 : decode bb_P_castlingTargets 126 = .ok (.iconst 1, 1) := by decide +kernel
theorem dd_P_castlingTargets_127 : decode bb_P_castlingTargets 127 = .ok (.aload_n 0, 1) := by decide +kernel
theorem dd_P_castlingTargets_128 : decode bb_P_castlingTargets 128 = .ok (.getfield 68, 3) := by decide +kernel
theorem dd_P_castlingTargets_131 : decode bb_P_castlingTargets 131 = .ok (.isub, 1) := by decide +kernel
theorem dd_P_castlingTargets_132 : decode bb_P_castlingTargets 132 = .ok (.iload_n 1, 1) := by decide +kernel
theorem dd_P_castlingTargets_133 : decode bb_P_castlingTargets 133 = .ok (.iconst 1, 1) := by decide +kernel
theorem dd_P_castlingTargets_134 : decode bb_P_castlingTargets 134 = .ok (.isub, 1) := by decide +kernel
theorem dd_P_castlingTargets_135 : decode bb_P_castlingTargets 135 = .ok (.invokevirtual 21, 3) := by decide +kernel
theorem dd_P_castlingTargets_138 : decode bb_P_castlingTargets 138 = .ok (.ifCond .ne 13, 3) := by decide +kernel
theorem dd_P_castlingTargets_141 : decode bb_P_castlingTargets 141 = .ok (.lload 4, 2) := by decide +kernel
theorem dd_P_castlingTargets_143 : decode bb_P_castlingTargets 143 = .ok (.lconst 1, 1) := by decide +kernel
theorem dd_P_castlingTargets_144 : decode bb_P_castlingTargets 144 = .ok (.iload_n 1, 1) := by decide +kernel
theorem dd_P_castlingTargets_145 : decode bb_P_castlingTargets 145 = .ok (.iconst 2, 1) := by decide +kernel
theorem dd_P_castlingTargets_146 : decode bb_P_castlingTargets 146 = .ok (.isub, 1) := by decide +kernel
theorem dd_P_castlingTargets_147 : decode bb_P_castlingTargets 147 = .ok (.lshl, 1) := by decide +kernel
theorem dd_P_castlingTargets_148 : decode bb_P_castlingTargets 148 = .ok (.lor, 1) := by decide +kernel
theorem dd_P_castlingTargets_149 : decode bb_P_castlingTargets 149 = .ok (.lstore 4, 2) := by decide +kernel
theorem dd_P_castlingTargets_151 : decode bb_P_castlingTargets 151 = .ok (.lload 4, 2) := by decide +kernel
theorem dd_P_castlingTargets_153 : decode bb_P_castlingTargets 153 = .ok (.lreturn, 1) := by decide +kernel
abbrev ty_P_castlingTargets : Type := Int64
noncomputable def bk_P_castlingTargets_151 (sd : Int32) (rt : Int32) (sq : Nat → Int32) (kg : Nat → Int32) (x4 : Int64) : Option ty_P_castlingTargets := some x4
noncomputable def bk_P_castlingTargets_121 (sd : Int32) (rt : Int32) (sq : Nat → Int32) (kg : Nat → Int32) (x1 : Int32) (x3 : Int32) (x4 : Int64) : Option ty_P_castlingTargets := if x3 = 0 then (bk_P_castlingTargets_151 sd rt sq kg x4) else ((fn_P_isHitBy sq (1 - sd) (x1 - 1)).bind fun r2001 => if r2001 = 0 then (qq_let (x4 ||| ((1 : Int64) <<< ((x1 - 2).toInt64 &&& 63))) fun v2002 => bk_P_castlingTargets_151 sd rt sq kg v2002) else (bk_P_castlingTargets_151 sd rt sq kg x4))
noncomputable def bk_P_castlingTargets_86 (sd : Int32) (rt : Int32) (sq : Nat → Int32) (kg : Nat → Int32) : Option ty_P_castlingTargets := some (0 : Int64)
noncomputable def bk_P_castlingTargets_72 (sd : Int32) (rt : Int32) (sq : Nat → Int32) (kg : Nat → Int32) (x1 : Int32) (x2 : Int32) (x3 : Int32) : Option ty_P_castlingTargets := (fn_P_isHitBy sq (1 - sd) x1).bind fun r4001 => if r4001 = 0 then (qq_let (0 : Int64) fun v4002 => if x2 = 0 then (bk_P_castlingTargets_121 sd rt sq kg x1 x3 v4002) else ((fn_P_isHitBy sq (1 - sd) (x1 + 1)).bind fun r4003 => if r4003 = 0 then (qq_let (v4002 ||| ((1 : Int64) <<< ((x1 + 2).toInt64 &&& 63))) fun v4004 => bk_P_castlingTargets_121 sd rt sq kg x1 x3 v4004) else (bk_P_castlingTargets_121 sd rt sq kg x1 x3 v4002))) else (bk_P_castlingTargets_86 sd rt sq kg)
noncomputable def bk_P_castlingTargets_63 (sd : Int32) (rt : Int32) (sq : Nat → Int32) (kg : Nat → Int32) (x1 : Int32) (x2 : Int32) (s0 : Int32) : Option ty_P_castlingTargets := if x2 = 0 then (if s0 = 0 then (bk_P_castlingTargets_86 sd rt sq kg) else (bk_P_castlingTargets_72 sd rt sq kg x1 x2 s0)) else (bk_P_castlingTargets_72 sd rt sq kg x1 x2 s0)
noncomputable def bk_P_castlingTargets_62 (sd : Int32) (rt : Int32) (sq : Nat → Int32) (kg : Nat → Int32) (x1 : Int32) (x2 : Int32) : Option ty_P_castlingTargets := bk_P_castlingTargets_63 sd rt sq kg x1 x2 0
noncomputable def bk_P_castlingTargets_36 (sd : Int32) (rt : Int32) (sq : Nat → Int32) (kg : Nat → Int32) (x1 : Int32) (s0 : Int32) : Option ty_P_castlingTargets := (fn_P_hasRight sd rt 1).bind fun r7001 => if r7001 = 0 then (bk_P_castlingTargets_62 sd rt sq kg x1 s0) else ((fn_P_isEmpty sq (x1 - 3) (x1 - 1)).bind fun r7002 => if r7002 = 0 then (bk_P_castlingTargets_62 sd rt sq kg x1 s0) else (bk_P_castlingTargets_63 sd rt sq kg x1 s0 1))
noncomputable def bk_P_castlingTargets_35 (sd : Int32) (rt : Int32) (sq : Nat → Int32) (kg : Nat → Int32) (x1 : Int32) : Option ty_P_castlingTargets := bk_P_castlingTargets_36 sd rt sq kg x1 0
noncomputable def fn_P_castlingTargets (sd : Int32) (rt : Int32) (sq : Nat → Int32) (kg : Nat → Int32) : Option ty_P_castlingTargets := qq_ck (qq_in sd 2) <| qq_let (kg sd.toNatClampNeg) fun v2 => (fn_P_hasRight sd rt 0).bind fun r3 => if r3 = 0 then (bk_P_castlingTargets_35 sd rt sq kg v2) else ((fn_P_isEmpty sq (v2 + 1) (v2 + 2)).bind fun r4 => if r4 = 0 then (bk_P_castlingTargets_35 sd rt sq kg v2) else (bk_P_castlingTargets_36 sd rt sq kg v2 1))
abbrev rm_P_castlingTargets : Room := { frames := 2, cells := 0, slots := 0, locals := 52 }
set_option maxHeartbeats 4000000 in
set_option maxRecDepth 100000 in
theorem ct_P_castlingTargets (l : Launch) (dC : Nat → ClassId) (dI : Nat → Nat → Nat) (cI cL cR : ClassId) (oP osq okg : Nat) (sd : Int32) (rt : Int32) (ps : Int32) (sq : Nat → Int32) (kg : Nat → Int32) {rr : Int64} (hf : fn_P_castlingTargets sd rt sq kg = some rr) : qq_det l yy_P_castlingTargets (ww_of yy_P_castlingTargets bb_P_castlingTargets 6 (some .long)) rm_P_castlingTargets (dC, dI) (qq_ty cI cL cR) [.ref oP] [(oP, .inr (1, [.ref osq, .ref okg, .int sd, .int rt, .int ps])), (osq, .inl (cI, 64, .inl sq)), (okg, .inl (cI, 2, .inl kg))] (some (.long rr)) [(oP, .inr (1, [.ref osq, .ref okg, .int sd, .int rt, .int ps])), (osq, .inl (cI, 64, .inl sq)), (okg, .inl (cI, 2, .inl kg))] := by
  refine qq_of (own := RR_P) (by decide) rfl (Nat.le_of_ble_eq_true rfl) ?_
  intro p e s m below meth c A Q ls hx hb hml hr hlocks hown hts hK hA hT hN hP hD hS hl hQ
  have hl : lv_has ls 6 [(0, .ref oP)] := hl
  have hJ151 : ∀ (x4 : Int64) (H : Heap) (locs : List Loc) (ls : Array Slot), lv_has ls 6 [(4, .long x4)] → va_P (dC, dI) classes [(oP, .inr (1, [.ref osq, .ref okg, .int sd, .int rt, .int ps])), (osq, .inl (cI, 64, .inl sq)), (okg, .inl (cI, 2, .inl kg))] H → va_D A [(oP, .inr (1, [.ref osq, .ref okg, .int sd, .int rt, .int ps])), (osq, .inl (cI, 64, .inl sq)), (okg, .inl (cI, 2, .inl kg))] → va_S A s.heap H locs → bk_P_castlingTargets_151 sd rt sq kg x4 = some rr → W p l e rm_P_castlingTargets s m ([.ref oP] : List Value).toArray below meth c H locs 0 0 Q (F0 m 151 ls []) := by
    intro x4 H locs ls hl hP hD hS hf
    rw [bk_P_castlingTargets_151] at hf
    refine lv_lload hx hb dd_P_castlingTargets_151 (lv_at hl 0 rfl) ?_
    cases hf
    exact qq_lret hx hb hr hlocks hQ hP hD hK hS dd_P_castlingTargets_153
  have hJ121 : ∀ (x1 : Int32) (x3 : Int32) (x4 : Int64) (H : Heap) (locs : List Loc) (ls : Array Slot), lv_has ls 6 [(0, .ref oP), (1, .int x1), (3, .int x3), (4, .long x4)] → va_P (dC, dI) classes [(oP, .inr (1, [.ref osq, .ref okg, .int sd, .int rt, .int ps])), (osq, .inl (cI, 64, .inl sq)), (okg, .inl (cI, 2, .inl kg))] H → va_D A [(oP, .inr (1, [.ref osq, .ref okg, .int sd, .int rt, .int ps])), (osq, .inl (cI, 64, .inl sq)), (okg, .inl (cI, 2, .inl kg))] → va_S A s.heap H locs → bk_P_castlingTargets_121 sd rt sq kg x1 x3 x4 = some rr → W p l e rm_P_castlingTargets s m ([.ref oP] : List Value).toArray below meth c H locs 0 0 Q (F0 m 121 ls []) := by
    intro x1 x3 x4 H locs ls hl hP hD hS hf
    rw [bk_P_castlingTargets_121] at hf
    refine lv_iload_n hx hb dd_P_castlingTargets_121 rfl (lv_at hl 2 rfl) ?_
    refine lv_if_eq (tgt := 151) hx hb dd_P_castlingTargets_122 (by decide) (fun hc => ?_) (fun hc => ?_)
    · replace hf := qq_t hc hf
      exact hJ151 x4 _ _ _ (lv_sub hl [3] rfl) hP hD hS hf
    · replace hf := qq_f hc hf
      refine lv_aload_n hx hb dd_P_castlingTargets_125 rfl (lv_at hl 0 rfl) ?_
      refine lv_iconst (v := 1) hx hb dd_P_castlingTargets_126 (by decide) ?_
      refine lv_aload_n hx hb dd_P_castlingTargets_127 rfl (lv_at hl 0 rfl) ?_
      refine va_get (D := (dC, dI)) (ci := 1) (v := .int sd) (C := RR_P) (T := FF_P) (N := 5) hx hb hts uu_P hown hK hP 0 rfl rfl 2 (by decide) (hts _ mm_12) (fun _ h9 => h9) rfl dd_P_castlingTargets_128 ?_
      refine lv_isub hx hb dd_P_castlingTargets_131 ?_
      refine lv_iload_n hx hb dd_P_castlingTargets_132 rfl (lv_at hl 1 rfl) ?_
      refine lv_iconst (v := 1) hx hb dd_P_castlingTargets_133 (by decide) ?_
      refine lv_isub hx hb dd_P_castlingTargets_134 ?_
      obtain ⟨r2001, hy2001, hf⟩ := qq_bd hf
      refine qq_V (As := [.int (1 - sd), .int (x1 - 1)]) (rest := []) (wr := []) (wf := [(oP, .inr (1, [.ref osq, .ref okg, .int sd, .int rt, .int ps])), (osq, .inl (cI, 64, .inl sq)), (okg, .inl (cI, 2, .inl kg))]) ⟨hx, hb, hml, hown, hts⟩ (ct_P_isHitBy l dC dI cI cL cR oP osq okg sd rt ps sq kg (1 - sd) (x1 - 1) hy2001) mm_82 mm_83 mm_84 mm_81 mm_15 hd_P_isHitBy (by decide) qq_00 hP hD hK hS hA hT hN (q0 := 0) (ci := 1) rfl rfl [0, 1, 2] [] [0, 1, 2] rfl rfl rfl (by decide) rfl hl.1 rfl (Nat.le_of_ble_eq_true rfl) dd_P_castlingTargets_135 (fun H locs hP hD hS => ?_)
      refine W.eq (g2 := F0 m 138 ls [.int r2001]) rfl ?_
      refine lv_if_ne (tgt := 151) hx hb dd_P_castlingTargets_138 (by decide) (fun hc => ?_) (fun hc => ?_)
      · replace hf := qq_f hc hf
        exact hJ151 x4 _ _ _ (lv_sub hl [3] rfl) hP hD hS hf
      · replace hf := qq_t hc hf
        refine lv_lload hx hb dd_P_castlingTargets_141 (lv_at hl 3 rfl) ?_
        refine lv_lconst (v := 1) hx hb dd_P_castlingTargets_143 (by decide) ?_
        refine lv_iload_n hx hb dd_P_castlingTargets_144 rfl (lv_at hl 1 rfl) ?_
        refine lv_iconst (v := 2) hx hb dd_P_castlingTargets_145 (by decide) ?_
        refine lv_isub hx hb dd_P_castlingTargets_146 ?_
        refine lv_lshl (v := ((1 : Int64) <<< ((x1 - 2).toInt64 &&& 63))) hx hb dd_P_castlingTargets_147 rfl ?_
        refine lv_lor hx hb dd_P_castlingTargets_148 ?_
        refine lv_topl (fun v2002 ev2002 => ?_)
        replace hf := qq_lt ev2002 hf
        refine lv_lstore (lv' := [(4, .long v2002), (0, .ref oP), (1, .int x1), (3, .int x3)]) hx hb dd_P_castlingTargets_149 hl (by decide) rfl (fun ls hl => ?_)
        exact hJ151 v2002 _ _ _ (lv_sub hl [0] rfl) hP hD hS hf
  have hJ86 : ∀  (H : Heap) (locs : List Loc) (ls : Array Slot), lv_has ls 6 [] → va_P (dC, dI) classes [(oP, .inr (1, [.ref osq, .ref okg, .int sd, .int rt, .int ps])), (osq, .inl (cI, 64, .inl sq)), (okg, .inl (cI, 2, .inl kg))] H → va_D A [(oP, .inr (1, [.ref osq, .ref okg, .int sd, .int rt, .int ps])), (osq, .inl (cI, 64, .inl sq)), (okg, .inl (cI, 2, .inl kg))] → va_S A s.heap H locs → bk_P_castlingTargets_86 sd rt sq kg = some rr → W p l e rm_P_castlingTargets s m ([.ref oP] : List Value).toArray below meth c H locs 0 0 Q (F0 m 86 ls []) := by
    intro  H locs ls hl hP hD hS hf
    rw [bk_P_castlingTargets_86] at hf
    refine lv_lconst (v := 0) hx hb dd_P_castlingTargets_86 (by decide) ?_
    cases hf
    exact qq_lret hx hb hr hlocks hQ hP hD hK hS dd_P_castlingTargets_87
  have hJ72 : ∀ (x1 : Int32) (x2 : Int32) (x3 : Int32) (H : Heap) (locs : List Loc) (ls : Array Slot), lv_has ls 6 [(0, .ref oP), (1, .int x1), (2, .int x2), (3, .int x3)] → va_P (dC, dI) classes [(oP, .inr (1, [.ref osq, .ref okg, .int sd, .int rt, .int ps])), (osq, .inl (cI, 64, .inl sq)), (okg, .inl (cI, 2, .inl kg))] H → va_D A [(oP, .inr (1, [.ref osq, .ref okg, .int sd, .int rt, .int ps])), (osq, .inl (cI, 64, .inl sq)), (okg, .inl (cI, 2, .inl kg))] → va_S A s.heap H locs → bk_P_castlingTargets_72 sd rt sq kg x1 x2 x3 = some rr → W p l e rm_P_castlingTargets s m ([.ref oP] : List Value).toArray below meth c H locs 0 0 Q (F0 m 72 ls []) := by
    intro x1 x2 x3 H locs ls hl hP hD hS hf
    rw [bk_P_castlingTargets_72] at hf
    refine lv_aload_n hx hb dd_P_castlingTargets_72 rfl (lv_at hl 0 rfl) ?_
    refine lv_iconst (v := 1) hx hb dd_P_castlingTargets_73 (by decide) ?_
    refine lv_aload_n hx hb dd_P_castlingTargets_74 rfl (lv_at hl 0 rfl) ?_
    refine va_get (D := (dC, dI)) (ci := 1) (v := .int sd) (C := RR_P) (T := FF_P) (N := 5) hx hb hts uu_P hown hK hP 0 rfl rfl 2 (by decide) (hts _ mm_12) (fun _ h9 => h9) rfl dd_P_castlingTargets_75 ?_
    refine lv_isub hx hb dd_P_castlingTargets_78 ?_
    refine lv_iload_n hx hb dd_P_castlingTargets_79 rfl (lv_at hl 1 rfl) ?_
    obtain ⟨r4001, hy4001, hf⟩ := qq_bd hf
    refine qq_V (As := [.int (1 - sd), .int x1]) (rest := []) (wr := []) (wf := [(oP, .inr (1, [.ref osq, .ref okg, .int sd, .int rt, .int ps])), (osq, .inl (cI, 64, .inl sq)), (okg, .inl (cI, 2, .inl kg))]) ⟨hx, hb, hml, hown, hts⟩ (ct_P_isHitBy l dC dI cI cL cR oP osq okg sd rt ps sq kg (1 - sd) x1 hy4001) mm_82 mm_83 mm_84 mm_81 mm_15 hd_P_isHitBy (by decide) qq_00 hP hD hK hS hA hT hN (q0 := 0) (ci := 1) rfl rfl [0, 1, 2] [] [0, 1, 2] rfl rfl rfl (by decide) rfl hl.1 rfl (Nat.le_of_ble_eq_true rfl) dd_P_castlingTargets_80 (fun H locs hP hD hS => ?_)
    refine W.eq (g2 := F0 m 83 ls [.int r4001]) rfl ?_
    refine lv_if_eq (tgt := 88) hx hb dd_P_castlingTargets_83 (by decide) (fun hc => ?_) (fun hc => ?_)
    · replace hf := qq_t hc hf
      refine lv_lconst (v := 0) hx hb dd_P_castlingTargets_88 (by decide) ?_
      refine lv_topl (fun v4002 ev4002 => ?_)
      replace hf := qq_lt ev4002 hf
      refine lv_lstore (lv' := [(4, .long v4002), (0, .ref oP), (1, .int x1), (2, .int x2), (3, .int x3)]) hx hb dd_P_castlingTargets_89 hl (by decide) rfl (fun ls hl => ?_)
      refine lv_iload_n hx hb dd_P_castlingTargets_91 rfl (lv_at hl 3 rfl) ?_
      refine lv_if_eq (tgt := 121) hx hb dd_P_castlingTargets_92 (by decide) (fun hc => ?_) (fun hc => ?_)
      · replace hf := qq_t hc hf
        exact hJ121 x1 x3 v4002 _ _ _ (lv_sub hl [1, 2, 4, 0] rfl) hP hD hS hf
      · replace hf := qq_f hc hf
        refine lv_aload_n hx hb dd_P_castlingTargets_95 rfl (lv_at hl 1 rfl) ?_
        refine lv_iconst (v := 1) hx hb dd_P_castlingTargets_96 (by decide) ?_
        refine lv_aload_n hx hb dd_P_castlingTargets_97 rfl (lv_at hl 1 rfl) ?_
        refine va_get (D := (dC, dI)) (ci := 1) (v := .int sd) (C := RR_P) (T := FF_P) (N := 5) hx hb hts uu_P hown hK hP 0 rfl rfl 2 (by decide) (hts _ mm_12) (fun _ h9 => h9) rfl dd_P_castlingTargets_98 ?_
        refine lv_isub hx hb dd_P_castlingTargets_101 ?_
        refine lv_iload_n hx hb dd_P_castlingTargets_102 rfl (lv_at hl 2 rfl) ?_
        refine lv_iconst (v := 1) hx hb dd_P_castlingTargets_103 (by decide) ?_
        refine lv_iadd hx hb dd_P_castlingTargets_104 ?_
        obtain ⟨r4003, hy4003, hf⟩ := qq_bd hf
        refine qq_V (As := [.int (1 - sd), .int (x1 + 1)]) (rest := []) (wr := []) (wf := [(oP, .inr (1, [.ref osq, .ref okg, .int sd, .int rt, .int ps])), (osq, .inl (cI, 64, .inl sq)), (okg, .inl (cI, 2, .inl kg))]) ⟨hx, hb, hml, hown, hts⟩ (ct_P_isHitBy l dC dI cI cL cR oP osq okg sd rt ps sq kg (1 - sd) (x1 + 1) hy4003) mm_82 mm_83 mm_84 mm_81 mm_15 hd_P_isHitBy (by decide) qq_00 hP hD hK hS hA hT hN (q0 := 0) (ci := 1) rfl rfl [0, 1, 2] [] [0, 1, 2] rfl rfl rfl (by decide) rfl hl.1 rfl (Nat.le_of_ble_eq_true rfl) dd_P_castlingTargets_105 (fun H locs hP hD hS => ?_)
        refine W.eq (g2 := F0 m 108 ls [.int r4003]) rfl ?_
        refine lv_if_ne (tgt := 121) hx hb dd_P_castlingTargets_108 (by decide) (fun hc => ?_) (fun hc => ?_)
        · replace hf := qq_f hc hf
          exact hJ121 x1 x3 v4002 _ _ _ (lv_sub hl [1, 2, 4, 0] rfl) hP hD hS hf
        · replace hf := qq_t hc hf
          refine lv_lload hx hb dd_P_castlingTargets_111 (lv_at hl 0 rfl) ?_
          refine lv_lconst (v := 1) hx hb dd_P_castlingTargets_113 (by decide) ?_
          refine lv_iload_n hx hb dd_P_castlingTargets_114 rfl (lv_at hl 2 rfl) ?_
          refine lv_iconst (v := 2) hx hb dd_P_castlingTargets_115 (by decide) ?_
          refine lv_iadd hx hb dd_P_castlingTargets_116 ?_
          refine lv_lshl (v := ((1 : Int64) <<< ((x1 + 2).toInt64 &&& 63))) hx hb dd_P_castlingTargets_117 rfl ?_
          refine lv_lor hx hb dd_P_castlingTargets_118 ?_
          refine lv_topl (fun v4004 ev4004 => ?_)
          replace hf := qq_lt ev4004 hf
          refine lv_lstore (lv' := [(4, .long v4004), (0, .ref oP), (1, .int x1), (2, .int x2), (3, .int x3)]) hx hb dd_P_castlingTargets_119 hl (by decide) rfl (fun ls hl => ?_)
          exact hJ121 x1 x3 v4004 _ _ _ (lv_sub hl [1, 2, 4, 0] rfl) hP hD hS hf
    · replace hf := qq_f hc hf
      exact hJ86  _ _ _ (lv_sub hl [] rfl) hP hD hS hf
  have hJ63 : ∀ (x1 : Int32) (x2 : Int32) (s0 : Int32) (H : Heap) (locs : List Loc) (ls : Array Slot), lv_has ls 6 [(0, .ref oP), (1, .int x1), (2, .int x2)] → va_P (dC, dI) classes [(oP, .inr (1, [.ref osq, .ref okg, .int sd, .int rt, .int ps])), (osq, .inl (cI, 64, .inl sq)), (okg, .inl (cI, 2, .inl kg))] H → va_D A [(oP, .inr (1, [.ref osq, .ref okg, .int sd, .int rt, .int ps])), (osq, .inl (cI, 64, .inl sq)), (okg, .inl (cI, 2, .inl kg))] → va_S A s.heap H locs → bk_P_castlingTargets_63 sd rt sq kg x1 x2 s0 = some rr → W p l e rm_P_castlingTargets s m ([.ref oP] : List Value).toArray below meth c H locs 0 0 Q (F0 m 63 ls [.int s0]) := by
    intro x1 x2 s0 H locs ls hl hP hD hS hf
    rw [bk_P_castlingTargets_63] at hf
    refine lv_istore_n (lv' := [(3, .int s0), (0, .ref oP), (1, .int x1), (2, .int x2)]) hx hb dd_P_castlingTargets_63 rfl hl (by decide) rfl (fun ls hl => ?_)
    refine lv_iload_n hx hb dd_P_castlingTargets_64 rfl (lv_at hl 3 rfl) ?_
    refine lv_if_ne (tgt := 72) hx hb dd_P_castlingTargets_65 (by decide) (fun hc => ?_) (fun hc => ?_)
    · replace hf := qq_f hc hf
      exact hJ72 x1 x2 s0 _ _ _ (lv_sub hl [1, 2, 3, 0] rfl) hP hD hS hf
    · replace hf := qq_t hc hf
      refine lv_iload_n hx hb dd_P_castlingTargets_68 rfl (lv_at hl 0 rfl) ?_
      refine lv_if_eq (tgt := 86) hx hb dd_P_castlingTargets_69 (by decide) (fun hc => ?_) (fun hc => ?_)
      · replace hf := qq_t hc hf
        exact hJ86  _ _ _ (lv_sub hl [] rfl) hP hD hS hf
      · replace hf := qq_f hc hf
        exact hJ72 x1 x2 s0 _ _ _ (lv_sub hl [1, 2, 3, 0] rfl) hP hD hS hf
  have hJ62 : ∀ (x1 : Int32) (x2 : Int32) (H : Heap) (locs : List Loc) (ls : Array Slot), lv_has ls 6 [(0, .ref oP), (1, .int x1), (2, .int x2)] → va_P (dC, dI) classes [(oP, .inr (1, [.ref osq, .ref okg, .int sd, .int rt, .int ps])), (osq, .inl (cI, 64, .inl sq)), (okg, .inl (cI, 2, .inl kg))] H → va_D A [(oP, .inr (1, [.ref osq, .ref okg, .int sd, .int rt, .int ps])), (osq, .inl (cI, 64, .inl sq)), (okg, .inl (cI, 2, .inl kg))] → va_S A s.heap H locs → bk_P_castlingTargets_62 sd rt sq kg x1 x2 = some rr → W p l e rm_P_castlingTargets s m ([.ref oP] : List Value).toArray below meth c H locs 0 0 Q (F0 m 62 ls []) := by
    intro x1 x2 H locs ls hl hP hD hS hf
    rw [bk_P_castlingTargets_62] at hf
    refine lv_iconst (v := 0) hx hb dd_P_castlingTargets_62 (by decide) ?_
    exact hJ63 x1 x2 0 _ _ _ (lv_sub hl [0, 1, 2] rfl) hP hD hS hf
  have hJ36 : ∀ (x1 : Int32) (s0 : Int32) (H : Heap) (locs : List Loc) (ls : Array Slot), lv_has ls 6 [(0, .ref oP), (1, .int x1)] → va_P (dC, dI) classes [(oP, .inr (1, [.ref osq, .ref okg, .int sd, .int rt, .int ps])), (osq, .inl (cI, 64, .inl sq)), (okg, .inl (cI, 2, .inl kg))] H → va_D A [(oP, .inr (1, [.ref osq, .ref okg, .int sd, .int rt, .int ps])), (osq, .inl (cI, 64, .inl sq)), (okg, .inl (cI, 2, .inl kg))] → va_S A s.heap H locs → bk_P_castlingTargets_36 sd rt sq kg x1 s0 = some rr → W p l e rm_P_castlingTargets s m ([.ref oP] : List Value).toArray below meth c H locs 0 0 Q (F0 m 36 ls [.int s0]) := by
    intro x1 s0 H locs ls hl hP hD hS hf
    rw [bk_P_castlingTargets_36] at hf
    refine lv_istore_n (lv' := [(2, .int s0), (0, .ref oP), (1, .int x1)]) hx hb dd_P_castlingTargets_36 rfl hl (by decide) rfl (fun ls hl => ?_)
    refine lv_aload_n hx hb dd_P_castlingTargets_37 rfl (lv_at hl 1 rfl) ?_
    refine lv_iconst (v := 1) hx hb dd_P_castlingTargets_38 (by decide) ?_
    obtain ⟨r7001, hy7001, hf⟩ := qq_bd hf
    refine qq_V (As := [.int 1]) (rest := []) (wr := []) (wf := [(oP, .inr (1, [.ref osq, .ref okg, .int sd, .int rt, .int ps])), (osq, .inl (cI, 64, .inl sq)), (okg, .inl (cI, 2, .inl kg))]) ⟨hx, hb, hml, hown, hts⟩ (ct_P_hasRight l dC dI cI cL cR oP osq okg sd rt ps sq kg 1 hy7001) mm_86 mm_87 mm_88 mm_85 mm_15 hd_P_hasRight (by decide) qq_00 hP hD hK hS hA hT hN (q0 := 0) (ci := 1) rfl rfl [0, 1, 2] [] [0, 1, 2] rfl rfl rfl (by decide) rfl hl.1 rfl (Nat.le_of_ble_eq_true rfl) dd_P_castlingTargets_39 (fun H locs hP hD hS => ?_)
    refine W.eq (g2 := F0 m 42 ls [.int r7001]) rfl ?_
    refine lv_if_eq (tgt := 62) hx hb dd_P_castlingTargets_42 (by decide) (fun hc => ?_) (fun hc => ?_)
    · replace hf := qq_t hc hf
      exact hJ62 x1 s0 _ _ _ (lv_sub hl [1, 2, 0] rfl) hP hD hS hf
    · replace hf := qq_f hc hf
      refine lv_aload_n hx hb dd_P_castlingTargets_45 rfl (lv_at hl 1 rfl) ?_
      refine lv_iload_n hx hb dd_P_castlingTargets_46 rfl (lv_at hl 2 rfl) ?_
      refine lv_iconst (v := 3) hx hb dd_P_castlingTargets_47 (by decide) ?_
      refine lv_isub hx hb dd_P_castlingTargets_48 ?_
      refine lv_iload_n hx hb dd_P_castlingTargets_49 rfl (lv_at hl 2 rfl) ?_
      refine lv_iconst (v := 1) hx hb dd_P_castlingTargets_50 (by decide) ?_
      refine lv_isub hx hb dd_P_castlingTargets_51 ?_
      obtain ⟨r7002, hy7002, hf⟩ := qq_bd hf
      refine qq_V (As := [.int (x1 - 3), .int (x1 - 1)]) (rest := []) (wr := []) (wf := [(oP, .inr (1, [.ref osq, .ref okg, .int sd, .int rt, .int ps])), (osq, .inl (cI, 64, .inl sq)), (okg, .inl (cI, 2, .inl kg))]) ⟨hx, hb, hml, hown, hts⟩ (ct_P_isEmpty l dC dI cI cL cR oP osq okg sd rt ps sq kg (x1 - 3) (x1 - 1) hy7002) mm_90 mm_91 mm_92 mm_89 mm_15 hd_P_isEmpty (by decide) qq_00 hP hD hK hS hA hT hN (q0 := 0) (ci := 1) rfl rfl [0, 1, 2] [] [0, 1, 2] rfl rfl rfl (by decide) rfl hl.1 rfl (Nat.le_of_ble_eq_true rfl) dd_P_castlingTargets_52 (fun H locs hP hD hS => ?_)
      refine W.eq (g2 := F0 m 55 ls [.int r7002]) rfl ?_
      refine lv_if_eq (tgt := 62) hx hb dd_P_castlingTargets_55 (by decide) (fun hc => ?_) (fun hc => ?_)
      · replace hf := qq_t hc hf
        exact hJ62 x1 s0 _ _ _ (lv_sub hl [1, 2, 0] rfl) hP hD hS hf
      · replace hf := qq_f hc hf
        refine lv_iconst (v := 1) hx hb dd_P_castlingTargets_58 (by decide) ?_
        refine lv_goto (tgt := 63) hx hb dd_P_castlingTargets_59 (by decide) ?_
        exact hJ63 x1 s0 1 _ _ _ (lv_sub hl [1, 2, 0] rfl) hP hD hS hf
  have hJ35 : ∀ (x1 : Int32) (H : Heap) (locs : List Loc) (ls : Array Slot), lv_has ls 6 [(0, .ref oP), (1, .int x1)] → va_P (dC, dI) classes [(oP, .inr (1, [.ref osq, .ref okg, .int sd, .int rt, .int ps])), (osq, .inl (cI, 64, .inl sq)), (okg, .inl (cI, 2, .inl kg))] H → va_D A [(oP, .inr (1, [.ref osq, .ref okg, .int sd, .int rt, .int ps])), (osq, .inl (cI, 64, .inl sq)), (okg, .inl (cI, 2, .inl kg))] → va_S A s.heap H locs → bk_P_castlingTargets_35 sd rt sq kg x1 = some rr → W p l e rm_P_castlingTargets s m ([.ref oP] : List Value).toArray below meth c H locs 0 0 Q (F0 m 35 ls []) := by
    intro x1 H locs ls hl hP hD hS hf
    rw [bk_P_castlingTargets_35] at hf
    refine lv_iconst (v := 0) hx hb dd_P_castlingTargets_35 (by decide) ?_
    exact hJ36 x1 0 _ _ _ (lv_sub hl [0, 1] rfl) hP hD hS hf
  rw [fn_P_castlingTargets] at hf
  refine lv_aload_n hx hb dd_P_castlingTargets_0 rfl (lv_at hl 0 rfl) ?_
  refine va_get (D := (dC, dI)) (ci := 1) (v := .ref okg) (C := RR_P) (T := FF_P) (N := 5) hx hb hts uu_P hown hK hP 0 rfl rfl 1 (by decide) (hts _ mm_93) (fun _ h9 => h9) rfl dd_P_castlingTargets_1 ?_
  refine lv_aload_n hx hb dd_P_castlingTargets_4 rfl (lv_at hl 0 rfl) ?_
  refine va_get (D := (dC, dI)) (ci := 1) (v := .int sd) (C := RR_P) (T := FF_P) (N := 5) hx hb hts uu_P hown hK hP 0 rfl rfl 2 (by decide) (hts _ mm_12) (fun _ h9 => h9) rfl dd_P_castlingTargets_5 ?_
  obtain ⟨hi1, hf⟩ := qq_ckE hf
  refine va_iald (D := (dC, dI)) (f := kg) (n := 2) (cA := cI) hx hb hK hP 2 0 rfl rfl (qq_inE hi1) dd_P_castlingTargets_8 ?_
  refine lv_topi (fun v2 ev2 => ?_)
  replace hf := qq_lt ev2 hf
  refine lv_istore_n (lv' := [(1, .int v2), (0, .ref oP)]) hx hb dd_P_castlingTargets_9 rfl hl (by decide) rfl (fun ls hl => ?_)
  refine lv_aload_n hx hb dd_P_castlingTargets_10 rfl (lv_at hl 1 rfl) ?_
  refine lv_iconst (v := 0) hx hb dd_P_castlingTargets_11 (by decide) ?_
  obtain ⟨r3, hy3, hf⟩ := qq_bd hf
  refine qq_V (As := [.int 0]) (rest := []) (wr := []) (wf := [(oP, .inr (1, [.ref osq, .ref okg, .int sd, .int rt, .int ps])), (osq, .inl (cI, 64, .inl sq)), (okg, .inl (cI, 2, .inl kg))]) ⟨hx, hb, hml, hown, hts⟩ (ct_P_hasRight l dC dI cI cL cR oP osq okg sd rt ps sq kg 0 hy3) mm_86 mm_87 mm_88 mm_85 mm_15 hd_P_hasRight (by decide) qq_00 hP hD hK hS hA hT hN (q0 := 0) (ci := 1) rfl rfl [0, 1, 2] [] [0, 1, 2] rfl rfl rfl (by decide) rfl hl.1 rfl (Nat.le_of_ble_eq_true rfl) dd_P_castlingTargets_12 (fun H locs hP hD hS => ?_)
  refine W.eq (g2 := F0 m 15 ls [.int r3]) rfl ?_
  refine lv_if_eq (tgt := 35) hx hb dd_P_castlingTargets_15 (by decide) (fun hc => ?_) (fun hc => ?_)
  · replace hf := qq_t hc hf
    exact hJ35 v2 _ _ _ (lv_sub hl [1, 0] rfl) hP hD hS hf
  · replace hf := qq_f hc hf
    refine lv_aload_n hx hb dd_P_castlingTargets_18 rfl (lv_at hl 1 rfl) ?_
    refine lv_iload_n hx hb dd_P_castlingTargets_19 rfl (lv_at hl 0 rfl) ?_
    refine lv_iconst (v := 1) hx hb dd_P_castlingTargets_20 (by decide) ?_
    refine lv_iadd hx hb dd_P_castlingTargets_21 ?_
    refine lv_iload_n hx hb dd_P_castlingTargets_22 rfl (lv_at hl 0 rfl) ?_
    refine lv_iconst (v := 2) hx hb dd_P_castlingTargets_23 (by decide) ?_
    refine lv_iadd hx hb dd_P_castlingTargets_24 ?_
    obtain ⟨r4, hy4, hf⟩ := qq_bd hf
    refine qq_V (As := [.int (v2 + 1), .int (v2 + 2)]) (rest := []) (wr := []) (wf := [(oP, .inr (1, [.ref osq, .ref okg, .int sd, .int rt, .int ps])), (osq, .inl (cI, 64, .inl sq)), (okg, .inl (cI, 2, .inl kg))]) ⟨hx, hb, hml, hown, hts⟩ (ct_P_isEmpty l dC dI cI cL cR oP osq okg sd rt ps sq kg (v2 + 1) (v2 + 2) hy4) mm_90 mm_91 mm_92 mm_89 mm_15 hd_P_isEmpty (by decide) qq_00 hP hD hK hS hA hT hN (q0 := 0) (ci := 1) rfl rfl [0, 1, 2] [] [0, 1, 2] rfl rfl rfl (by decide) rfl hl.1 rfl (Nat.le_of_ble_eq_true rfl) dd_P_castlingTargets_25 (fun H locs hP hD hS => ?_)
    refine W.eq (g2 := F0 m 28 ls [.int r4]) rfl ?_
    refine lv_if_eq (tgt := 35) hx hb dd_P_castlingTargets_28 (by decide) (fun hc => ?_) (fun hc => ?_)
    · replace hf := qq_t hc hf
      exact hJ35 v2 _ _ _ (lv_sub hl [1, 0] rfl) hP hD hS hf
    · replace hf := qq_f hc hf
      refine lv_iconst (v := 1) hx hb dd_P_castlingTargets_31 (by decide) ?_
      refine lv_goto (tgt := 36) hx hb dd_P_castlingTargets_32 (by decide) ?_
      exact hJ36 v2 1 _ _ _ (lv_sub hl [1, 0] rfl) hP hD hS hf
theorem dd_P_listCandidates_0 : decode bb_P_listCandidates 0 = .ok (.aload_n 1, 1) := by decide +kernel
theorem dd_P_listCandidates_1 : decode bb_P_listCandidates 1 = .ok (.iconst 0, 1) := by decide +kernel
theorem dd_P_listCandidates_2 : decode bb_P_listCandidates 2 = .ok (.putfield 55, 3) := by decide +kernel
theorem dd_P_listCandidates_5 : decode bb_P_listCandidates 5 = .ok (.iconst 0, 1) := by decide +kernel
theorem dd_P_listCandidates_6 : decode bb_P_listCandidates 6 = .ok (.istore_n 2, 1) := by decide +kernel
theorem dd_P_listCandidates_7 : decode bb_P_listCandidates 7 = .ok (.iload_n 2, 1) := by decide +kernel
theorem dd_P_listCandidates_8 : decode bb_P_listCandidates 8 = .ok (.bipush 64, 2) := by decide +kernel
theorem dd_P_listCandidates_10 : decode bb_P_listCandidates 10 = .ok (.if_icmp .ge 87, 3) := by decide +kernel
theorem dd_P_listCandidates_13 : decode bb_P_listCandidates 13 = .ok (.aload_n 0, 1) := by decide +kernel
theorem dd_P_listCandidates_14 : decode bb_P_listCandidates 14 = .ok (.getfield 9, 3) := by decide +kernel
theorem dd_P_listCandidates_17 : decode bb_P_listCandidates 17 = .ok (.iload_n 2, 1) := by decide +kernel
theorem dd_P_listCandidates_18 : decode bb_P_listCandidates 18 = .ok (.iaload, 1) := by decide +kernel
theorem dd_P_listCandidates_19 : decode bb_P_listCandidates 19 = .ok (.bipush 6, 2) := by decide +kernel
theorem dd_P_listCandidates_21 : decode bb_P_listCandidates 21 = .ok (.aload_n 0, 1) := by decide +kernel
theorem dd_P_listCandidates_22 : decode bb_P_listCandidates 22 = .ok (.getfield 68, 3) := by decide +kernel
theorem dd_P_listCandidates_25 : decode bb_P_listCandidates 25 = .ok (.imul, 1) := by decide +kernel
theorem dd_P_listCandidates_26 : decode bb_P_listCandidates 26 = .ok (.isub, 1) := by decide +kernel
theorem dd_P_listCandidates_27 : decode bb_P_listCandidates 27 = .ok (.istore_n 3, 1) := by decide +kernel
theorem dd_P_listCandidates_28 : decode bb_P_listCandidates 28 = .ok (.iload_n 3, 1) := by decide +kernel
theorem dd_P_listCandidates_29 : decode bb_P_listCandidates 29 = .ok (.iconst 1, 1) := by decide +kernel
theorem dd_P_listCandidates_30 : decode bb_P_listCandidates 30 = .ok (.if_icmp .ne 12, 3) := by decide +kernel
theorem dd_P_listCandidates_33 : decode bb_P_listCandidates 33 = .ok (.aload_n 0, 1) := by decide +kernel
theorem dd_P_listCandidates_34 : decode bb_P_listCandidates 34 = .ok (.iload_n 2, 1) := by decide +kernel
theorem dd_P_listCandidates_35 : decode bb_P_listCandidates 35 = .ok (.aload_n 1, 1) := by decide +kernel
theorem dd_P_listCandidates_36 : decode bb_P_listCandidates 36 = .ok (.invokevirtual 71, 3) := by decide +kernel
theorem dd_P_listCandidates_39 : decode bb_P_listCandidates 39 = .ok (.goto 52, 3) := by decide +kernel
theorem dd_P_listCandidates_42 : decode bb_P_listCandidates 42 = .ok (.iload_n 3, 1) := by decide +kernel
theorem dd_P_listCandidates_43 : decode bb_P_listCandidates 43 = .ok (.bipush 6, 2) := by decide +kernel
theorem dd_P_listCandidates_45 : decode bb_P_listCandidates 45 = .ok (.if_icmp .ne 23, 3) := by decide +kernel
theorem dd_P_listCandidates_48 : decode bb_P_listCandidates 48 = .ok (.aload_n 0, 1) := by decide +kernel
theorem dd_P_listCandidates_49 : decode bb_P_listCandidates 49 = .ok (.iload_n 2, 1) := by decide +kernel
theorem dd_P_listCandidates_50 : decode bb_P_listCandidates 50 = .ok (.aload_n 0, 1) := by decide +kernel
theorem dd_P_listCandidates_51 : decode bb_P_listCandidates 51 = .ok (.iload_n 3, 1) := by decide +kernel
theorem dd_P_listCandidates_52 : decode bb_P_listCandidates 52 = .ok (.iload_n 2, 1) := by decide +kernel
theorem dd_P_listCandidates_53 : decode bb_P_listCandidates 53 = .ok (.invokevirtual 75, 3) := by decide +kernel
theorem dd_P_listCandidates_56 : decode bb_P_listCandidates 56 = .ok (.aload_n 0, 1) := by decide +kernel
theorem dd_P_listCandidates_57 : decode bb_P_listCandidates 57 = .ok (.invokevirtual 79, 3) := by decide +kernel
theorem dd_P_listCandidates_60 : decode bb_P_listCandidates 60 = .ok (.lor, 1) := by decide +kernel
theorem dd_P_listCandidates_61 : decode bb_P_listCandidates 61 = .ok (.aload_n 1, 1) := by decide +kernel
theorem dd_P_listCandidates_62 : decode bb_P_listCandidates 62 = .ok (.invokevirtual 83, 3) := by decide +kernel
theorem dd_P_listCandidates_65 : decode bb_P_listCandidates 65 = .ok (.goto 26, 3) := by decide +kernel
theorem dd_P_listCandidates_68 : decode bb_P_listCandidates 68 = .ok (.iload_n 3, 1) := by decide +kernel
theorem dd_P_listCandidates_69 : decode bb_P_listCandidates 69 = .ok (.iconst 1, 1) := by decide +kernel
theorem dd_P_listCandidates_70 : decode bb_P_listCandidates 70 = .ok (.if_icmp .le 21, 3) := by decide +kernel
theorem dd_P_listCandidates_73 : decode bb_P_listCandidates 73 = .ok (.iload_n 3, 1) := by decide +kernel
theorem dd_P_listCandidates_74 : decode bb_P_listCandidates 74 = .ok (.bipush 6, 2) := by decide +kernel
theorem dd_P_listCandidates_76 : decode bb_P_listCandidates 76 = .ok (.if_icmp .ge 15, 3) := by decide +kernel
theorem dd_P_listCandidates_79 : decode bb_P_listCandidates 79 = .ok (.aload_n 0, 1) := by decide +kernel
theorem dd_P_listCandidates_80 : decode bb_P_listCandidates 80 = .ok (.iload_n 2, 1) := by decide +kernel
theorem dd_P_listCandidates_81 : decode bb_P_listCandidates 81 = .ok (.aload_n 0, 1) := by decide +kernel
theorem dd_P_listCandidates_82 : decode bb_P_listCandidates 82 = .ok (.iload_n 3, 1) := by decide +kernel
theorem dd_P_listCandidates_83 : decode bb_P_listCandidates 83 = .ok (.iload_n 2, 1) := by decide +kernel
theorem dd_P_listCandidates_84 : decode bb_P_listCandidates 84 = .ok (.invokevirtual 75, 3) := by decide +kernel
theorem dd_P_listCandidates_87 : decode bb_P_listCandidates 87 = .ok (.aload_n 1, 1) := by decide +kernel
theorem dd_P_listCandidates_88 : decode bb_P_listCandidates 88 = .ok (.invokevirtual 83, 3) := by decide +kernel
theorem dd_P_listCandidates_91 : decode bb_P_listCandidates 91 = .ok (.iinc 2 1, 3) := by decide +kernel
theorem dd_P_listCandidates_94 : decode bb_P_listCandidates 94 = .ok (.goto (-87), 3) := by decide +kernel
theorem dd_P_listCandidates_97 : decode bb_P_listCandidates 97 = .ok (.return_, 1) := by decide +kernel
abbrev ty_P_listCandidates : Type := Int32 × (Nat → Int32)
noncomputable def bk_P_listCandidates_91 (sd : Int32) (rt : Int32) (ps : Int32) (sq : Nat → Int32) (kg : Nat → Int32) (k7 : Int32 → (Nat → Int32) → Int32 → Option ty_P_listCandidates) (rn : Int32) (rc : Nat → Int32) (x2 : Int32) : Option ty_P_listCandidates := qq_let (x2 + 1) fun v1001 => k7 rn rc v1001
noncomputable def lo_P_listCandidates_7 (sd : Int32) (rt : Int32) (ps : Int32) (sq : Nat → Int32) (kg : Nat → Int32) : Nat → Int32 → (Nat → Int32) → Int32 → Option ty_P_listCandidates
  | 0, _, _, _ => none
  | n + 1, rn, rc, x2 => if 64 ≤ x2 then (some (rn, rc)) else (qq_ck (qq_in x2 64) <| qq_let ((sq x2.toNatClampNeg) - (6 * sd)) fun v2002 => if v2002 = 1 then ((fn_P_addPawnMoves sd ps sq rn rc x2).bind fun (rn_2010, rc_2011) => bk_P_listCandidates_91 sd rt ps sq kg (lo_P_listCandidates_7 sd rt ps sq kg n) rn_2010 rc_2011 x2) else (if v2002 = 6 then ((fn_P_targetsOfPiece sd sq v2002 x2).bind fun r2006 => (fn_P_castlingTargets sd rt sq kg).bind fun r2007 => (fn_P_addMoves rn rc x2 (r2006 ||| r2007)).bind fun (rn_2008, rc_2009) => bk_P_listCandidates_91 sd rt ps sq kg (lo_P_listCandidates_7 sd rt ps sq kg n) rn_2008 rc_2009 x2) else (if v2002 ≤ 1 then (bk_P_listCandidates_91 sd rt ps sq kg (lo_P_listCandidates_7 sd rt ps sq kg n) rn rc x2) else (if 6 ≤ v2002 then (bk_P_listCandidates_91 sd rt ps sq kg (lo_P_listCandidates_7 sd rt ps sq kg n) rn rc x2) else ((fn_P_targetsOfPiece sd sq v2002 x2).bind fun r2003 => (fn_P_addMoves rn rc x2 r2003).bind fun (rn_2004, rc_2005) => bk_P_listCandidates_91 sd rt ps sq kg (lo_P_listCandidates_7 sd rt ps sq kg n) rn_2004 rc_2005 x2)))))
theorem lo_P_listCandidates_7_z (sd : Int32) (rt : Int32) (ps : Int32) (sq : Nat → Int32) (kg : Nat → Int32) (rn : Int32) (rc : Nat → Int32) (x2 : Int32) : lo_P_listCandidates_7 sd rt ps sq kg 0 rn rc x2 = none := rfl
theorem lo_P_listCandidates_7_s (sd : Int32) (rt : Int32) (ps : Int32) (sq : Nat → Int32) (kg : Nat → Int32) (rn : Int32) (rc : Nat → Int32) (x2 : Int32) (n : Nat) : lo_P_listCandidates_7 sd rt ps sq kg (n + 1) rn rc x2 = (if 64 ≤ x2 then (some (rn, rc)) else (qq_ck (qq_in x2 64) <| qq_let ((sq x2.toNatClampNeg) - (6 * sd)) fun v2002 => if v2002 = 1 then ((fn_P_addPawnMoves sd ps sq rn rc x2).bind fun (rn_2010, rc_2011) => bk_P_listCandidates_91 sd rt ps sq kg (lo_P_listCandidates_7 sd rt ps sq kg n) rn_2010 rc_2011 x2) else (if v2002 = 6 then ((fn_P_targetsOfPiece sd sq v2002 x2).bind fun r2006 => (fn_P_castlingTargets sd rt sq kg).bind fun r2007 => (fn_P_addMoves rn rc x2 (r2006 ||| r2007)).bind fun (rn_2008, rc_2009) => bk_P_listCandidates_91 sd rt ps sq kg (lo_P_listCandidates_7 sd rt ps sq kg n) rn_2008 rc_2009 x2) else (if v2002 ≤ 1 then (bk_P_listCandidates_91 sd rt ps sq kg (lo_P_listCandidates_7 sd rt ps sq kg n) rn rc x2) else (if 6 ≤ v2002 then (bk_P_listCandidates_91 sd rt ps sq kg (lo_P_listCandidates_7 sd rt ps sq kg n) rn rc x2) else ((fn_P_targetsOfPiece sd sq v2002 x2).bind fun r2003 => (fn_P_addMoves rn rc x2 r2003).bind fun (rn_2004, rc_2005) => bk_P_listCandidates_91 sd rt ps sq kg (lo_P_listCandidates_7 sd rt ps sq kg n) rn_2004 rc_2005 x2)))))) := rfl
noncomputable def fn_P_listCandidates (sd : Int32) (rt : Int32) (ps : Int32) (sq : Nat → Int32) (kg : Nat → Int32) (rn : Int32) (rc : Nat → Int32) : Option ty_P_listCandidates := lo_P_listCandidates_7 sd rt ps sq kg qq_FU 0 rc 0
abbrev rm_P_listCandidates : Room := { frames := 4, cells := 0, slots := 0, locals := 98 }
set_option maxHeartbeats 4000000 in
set_option maxRecDepth 100000 in
theorem ct_P_listCandidates (l : Launch) (dC : Nat → ClassId) (dI : Nat → Nat → Nat) (cI cL cR : ClassId) (oP osq okg oW orc : Nat) (sd : Int32) (rt : Int32) (ps : Int32) (sq : Nat → Int32) (kg : Nat → Int32) (rn : Int32) (rc : Nat → Int32) {rn' : Int32} {rc' : Nat → Int32} (hf : fn_P_listCandidates sd rt ps sq kg rn rc = some (rn', rc')) : qq_det l yy_P_listCandidates (ww_of yy_P_listCandidates bb_P_listCandidates 4 none) rm_P_listCandidates (dC, dI) (qq_ty cI cL cR) [.ref oP, .ref oW] [(oP, .inr (1, [.ref osq, .ref okg, .int sd, .int rt, .int ps])), (osq, .inl (cI, 64, .inl sq)), (okg, .inl (cI, 2, .inl kg)), (oW, .inr (2, [.ref orc, .int rn])), (orc, .inl (cI, 415, .inl rc))] none [(oP, .inr (1, [.ref osq, .ref okg, .int sd, .int rt, .int ps])), (osq, .inl (cI, 64, .inl sq)), (okg, .inl (cI, 2, .inl kg)), (oW, .inr (2, [.ref orc, .int rn'])), (orc, .inl (cI, 415, .inl rc'))] := by
  refine qq_of (own := RR_P) (by decide) rfl (Nat.le_of_ble_eq_true rfl) ?_
  intro p e s m below meth c A Q ls hx hb hml hr hlocks hown hts hK hA hT hN hP hD hS hl hQ
  have hl : lv_has ls 4 [(0, .ref oP), (1, .ref oW)] := hl
  have hL7 : ∀ (n7 : Nat) (rn : Int32) (rc : Nat → Int32) (x2 : Int32) (H : Heap) (locs : List Loc) (ls : Array Slot), lv_has ls 4 [(0, .ref oP), (1, .ref oW), (2, .int x2)] → va_P (dC, dI) classes [(oP, .inr (1, [.ref osq, .ref okg, .int sd, .int rt, .int ps])), (osq, .inl (cI, 64, .inl sq)), (okg, .inl (cI, 2, .inl kg)), (oW, .inr (2, [.ref orc, .int rn])), (orc, .inl (cI, 415, .inl rc))] H → va_D A [(oP, .inr (1, [.ref osq, .ref okg, .int sd, .int rt, .int ps])), (osq, .inl (cI, 64, .inl sq)), (okg, .inl (cI, 2, .inl kg)), (oW, .inr (2, [.ref orc, .int rn])), (orc, .inl (cI, 415, .inl rc))] → va_S A s.heap H locs → lo_P_listCandidates_7 sd rt ps sq kg n7 rn rc x2 = some (rn', rc') → W p l e rm_P_listCandidates s m ([.ref oP, .ref oW] : List Value).toArray below meth c H locs 0 0 Q (F0 m 7 ls []) := by
    intro n7
    induction n7 with
    | zero => exact fun rn rc x2 H locs ls hl hP hD hS hf => absurd hf (by rw [lo_P_listCandidates_7_z]; exact fun h => by cases h)
    | succ n7 ih7 =>
      have hJ91 : ∀ (rn : Int32) (rc : Nat → Int32) (x2 : Int32) (H : Heap) (locs : List Loc) (ls : Array Slot), lv_has ls 4 [(0, .ref oP), (1, .ref oW), (2, .int x2)] → va_P (dC, dI) classes [(oP, .inr (1, [.ref osq, .ref okg, .int sd, .int rt, .int ps])), (osq, .inl (cI, 64, .inl sq)), (okg, .inl (cI, 2, .inl kg)), (oW, .inr (2, [.ref orc, .int rn])), (orc, .inl (cI, 415, .inl rc))] H → va_D A [(oP, .inr (1, [.ref osq, .ref okg, .int sd, .int rt, .int ps])), (osq, .inl (cI, 64, .inl sq)), (okg, .inl (cI, 2, .inl kg)), (oW, .inr (2, [.ref orc, .int rn])), (orc, .inl (cI, 415, .inl rc))] → va_S A s.heap H locs → bk_P_listCandidates_91 sd rt ps sq kg (lo_P_listCandidates_7 sd rt ps sq kg n7) rn rc x2 = some (rn', rc') → W p l e rm_P_listCandidates s m ([.ref oP, .ref oW] : List Value).toArray below meth c H locs 0 0 Q (F0 m 91 ls []) := by
        intro rn rc x2 H locs ls hl hP hD hS hf
        rw [bk_P_listCandidates_91] at hf
        obtain ⟨v1001, ev1001⟩ : ∃ z, z = x2 + 1 := ⟨_, rfl⟩
        replace hf := qq_lt ev1001 hf
        refine lv_iinc (k := 2) (v := v1001) (lv' := [(2, .int v1001), (0, .ref oP), (1, .ref oW)]) hx hb dd_P_listCandidates_91 hl rfl (by rw [ev1001]; exact congrArg _ (by decide)) (by decide) rfl (fun ls hl => ?_)
        refine lv_goto (tgt := 7) hx hb dd_P_listCandidates_94 (by decide) ?_
        exact ih7 rn rc v1001 _ _ _ (lv_sub hl [1, 2, 0] rfl) hP hD hS hf
      intro rn rc x2 H locs ls hl hP hD hS hf
      rw [lo_P_listCandidates_7_s] at hf
      refine lv_iload_n hx hb dd_P_listCandidates_7 rfl (lv_at hl 2 rfl) ?_
      refine lv_bipush (v := 64) hx hb dd_P_listCandidates_8 (by decide) ?_
      refine lv_icmp_ge (tgt := 97) hx hb dd_P_listCandidates_10 (by decide) (fun hc => ?_) (fun hc => ?_)
      · replace hf := qq_t hc hf
        cases hf
        exact qq_vret hx hb hr hlocks hQ hP hD hK hS dd_P_listCandidates_97
      · replace hf := qq_f hc hf
        refine lv_aload_n hx hb dd_P_listCandidates_13 rfl (lv_at hl 0 rfl) ?_
        refine va_get (D := (dC, dI)) (ci := 1) (v := .ref osq) (C := RR_P) (T := FF_P) (N := 5) hx hb hts uu_P hown hK hP 0 rfl rfl 0 (by decide) (hts _ mm_11) (fun _ h9 => h9) rfl dd_P_listCandidates_14 ?_
        refine lv_iload_n hx hb dd_P_listCandidates_17 rfl (lv_at hl 2 rfl) ?_
        obtain ⟨hi2001, hf⟩ := qq_ckE hf
        refine va_iald (D := (dC, dI)) (f := sq) (n := 64) (cA := cI) hx hb hK hP 1 0 rfl rfl (qq_inE hi2001) dd_P_listCandidates_18 ?_
        refine lv_bipush (v := 6) hx hb dd_P_listCandidates_19 (by decide) ?_
        refine lv_aload_n hx hb dd_P_listCandidates_21 rfl (lv_at hl 0 rfl) ?_
        refine va_get (D := (dC, dI)) (ci := 1) (v := .int sd) (C := RR_P) (T := FF_P) (N := 5) hx hb hts uu_P hown hK hP 0 rfl rfl 2 (by decide) (hts _ mm_12) (fun _ h9 => h9) rfl dd_P_listCandidates_22 ?_
        refine lv_imul hx hb dd_P_listCandidates_25 ?_
        refine lv_isub hx hb dd_P_listCandidates_26 ?_
        refine lv_topi (fun v2002 ev2002 => ?_)
        replace hf := qq_lt ev2002 hf
        refine lv_istore_n (lv' := [(3, .int v2002), (0, .ref oP), (1, .ref oW), (2, .int x2)]) hx hb dd_P_listCandidates_27 rfl hl (by decide) rfl (fun ls hl => ?_)
        refine lv_iload_n hx hb dd_P_listCandidates_28 rfl (lv_at hl 0 rfl) ?_
        refine lv_iconst (v := 1) hx hb dd_P_listCandidates_29 (by decide) ?_
        refine lv_icmp_ne (tgt := 42) hx hb dd_P_listCandidates_30 (by decide) (fun hc => ?_) (fun hc => ?_)
        · replace hf := qq_f hc hf
          refine lv_iload_n hx hb dd_P_listCandidates_42 rfl (lv_at hl 0 rfl) ?_
          refine lv_bipush (v := 6) hx hb dd_P_listCandidates_43 (by decide) ?_
          refine lv_icmp_ne (tgt := 68) hx hb dd_P_listCandidates_45 (by decide) (fun hc => ?_) (fun hc => ?_)
          · replace hf := qq_f hc hf
            refine lv_iload_n hx hb dd_P_listCandidates_68 rfl (lv_at hl 0 rfl) ?_
            refine lv_iconst (v := 1) hx hb dd_P_listCandidates_69 (by decide) ?_
            refine lv_icmp_le (tgt := 91) hx hb dd_P_listCandidates_70 (by decide) (fun hc => ?_) (fun hc => ?_)
            · replace hf := qq_t hc hf
              exact hJ91 rn rc x2 _ _ _ (lv_sub hl [1, 2, 3] rfl) hP hD hS hf
            · replace hf := qq_f hc hf
              refine lv_iload_n hx hb dd_P_listCandidates_73 rfl (lv_at hl 0 rfl) ?_
              refine lv_bipush (v := 6) hx hb dd_P_listCandidates_74 (by decide) ?_
              refine lv_icmp_ge (tgt := 91) hx hb dd_P_listCandidates_76 (by decide) (fun hc => ?_) (fun hc => ?_)
              · replace hf := qq_t hc hf
                exact hJ91 rn rc x2 _ _ _ (lv_sub hl [1, 2, 3] rfl) hP hD hS hf
              · replace hf := qq_f hc hf
                refine lv_aload_n hx hb dd_P_listCandidates_79 rfl (lv_at hl 1 rfl) ?_
                refine lv_iload_n hx hb dd_P_listCandidates_80 rfl (lv_at hl 3 rfl) ?_
                refine lv_aload_n hx hb dd_P_listCandidates_81 rfl (lv_at hl 1 rfl) ?_
                refine lv_iload_n hx hb dd_P_listCandidates_82 rfl (lv_at hl 0 rfl) ?_
                refine lv_iload_n hx hb dd_P_listCandidates_83 rfl (lv_at hl 3 rfl) ?_
                obtain ⟨r2003, hy2003, hf⟩ := qq_bd hf
                refine qq_V (As := [.int v2002, .int x2]) (rest := [.int x2, .ref oP]) (wr := [(oW, .inr (2, [.ref orc, .int rn])), (orc, .inl (cI, 415, .inl rc))]) (wf := [(oP, .inr (1, [.ref osq, .ref okg, .int sd, .int rt, .int ps])), (osq, .inl (cI, 64, .inl sq)), (okg, .inl (cI, 2, .inl kg)), (oW, .inr (2, [.ref orc, .int rn])), (orc, .inl (cI, 415, .inl rc))]) ⟨hx, hb, hml, hown, hts⟩ (ct_P_targetsOfPiece l dC dI cI cL cR oP osq okg sd rt ps sq kg v2002 x2 hy2003) mm_95 mm_96 mm_97 mm_94 mm_15 hd_P_targetsOfPiece (by decide) qq_00 hP hD hK hS hA hT hN (q0 := 0) (ci := 1) rfl rfl [0, 1, 2] [3, 4] [2, 3, 4, 0, 1] rfl rfl rfl (by decide) rfl hl.1 rfl (Nat.le_of_ble_eq_true rfl) dd_P_listCandidates_84 (fun H locs hP hD hS => ?_)
                refine W.eq (g2 := F0 m 87 ls [.long r2003, .int x2, .ref oP]) rfl ?_
                refine lv_aload_n hx hb dd_P_listCandidates_87 rfl (lv_at hl 2 rfl) ?_
                obtain ⟨⟨rn_2004, rc_2005⟩, hy2005, hf⟩ := qq_bd hf
                dsimp only at hf
                refine qq_V (As := [.int x2, .long r2003, .ref oW]) (rest := []) (wr := []) (wf := [(oP, .inr (1, [.ref osq, .ref okg, .int sd, .int rt, .int ps])), (osq, .inl (cI, 64, .inl sq)), (okg, .inl (cI, 2, .inl kg)), (oW, .inr (2, [.ref orc, .int rn_2004])), (orc, .inl (cI, 415, .inl rc_2005))]) ⟨hx, hb, hml, hown, hts⟩ (ct_P_addMoves l dC dI cI cL cR oP osq okg oW orc sd rt ps sq kg rn rc x2 r2003 hy2005) mm_47 mm_48 mm_49 mm_46 mm_15 hd_P_addMoves (by decide) qq_00 hP hD hK hS hA hT hN (q0 := 0) (ci := 1) rfl rfl [0, 1, 2, 3, 4] [] [0, 1, 2, 3, 4] rfl rfl rfl (by decide) rfl hl.1 rfl (Nat.le_of_ble_eq_true rfl) dd_P_listCandidates_88 (fun H locs hP hD hS => ?_)
                refine W.eq (g2 := F0 m 91 ls []) rfl ?_
                exact hJ91 rn_2004 rc_2005 x2 _ _ _ (lv_sub hl [1, 2, 3] rfl) hP hD hS hf
          · replace hf := qq_t hc hf
            refine lv_aload_n hx hb dd_P_listCandidates_48 rfl (lv_at hl 1 rfl) ?_
            refine lv_iload_n hx hb dd_P_listCandidates_49 rfl (lv_at hl 3 rfl) ?_
            refine lv_aload_n hx hb dd_P_listCandidates_50 rfl (lv_at hl 1 rfl) ?_
            refine lv_iload_n hx hb dd_P_listCandidates_51 rfl (lv_at hl 0 rfl) ?_
            refine lv_iload_n hx hb dd_P_listCandidates_52 rfl (lv_at hl 3 rfl) ?_
            obtain ⟨r2006, hy2006, hf⟩ := qq_bd hf
            refine qq_V (As := [.int v2002, .int x2]) (rest := [.int x2, .ref oP]) (wr := [(oW, .inr (2, [.ref orc, .int rn])), (orc, .inl (cI, 415, .inl rc))]) (wf := [(oP, .inr (1, [.ref osq, .ref okg, .int sd, .int rt, .int ps])), (osq, .inl (cI, 64, .inl sq)), (okg, .inl (cI, 2, .inl kg)), (oW, .inr (2, [.ref orc, .int rn])), (orc, .inl (cI, 415, .inl rc))]) ⟨hx, hb, hml, hown, hts⟩ (ct_P_targetsOfPiece l dC dI cI cL cR oP osq okg sd rt ps sq kg v2002 x2 hy2006) mm_95 mm_96 mm_97 mm_94 mm_15 hd_P_targetsOfPiece (by decide) qq_00 hP hD hK hS hA hT hN (q0 := 0) (ci := 1) rfl rfl [0, 1, 2] [3, 4] [2, 3, 4, 0, 1] rfl rfl rfl (by decide) rfl hl.1 rfl (Nat.le_of_ble_eq_true rfl) dd_P_listCandidates_53 (fun H locs hP hD hS => ?_)
            refine W.eq (g2 := F0 m 56 ls [.long r2006, .int x2, .ref oP]) rfl ?_
            refine lv_aload_n hx hb dd_P_listCandidates_56 rfl (lv_at hl 1 rfl) ?_
            obtain ⟨r2007, hy2007, hf⟩ := qq_bd hf
            refine qq_V (As := []) (rest := [.long r2006, .int x2, .ref oP]) (wr := [(oW, .inr (2, [.ref orc, .int rn])), (orc, .inl (cI, 415, .inl rc))]) (wf := [(oP, .inr (1, [.ref osq, .ref okg, .int sd, .int rt, .int ps])), (osq, .inl (cI, 64, .inl sq)), (okg, .inl (cI, 2, .inl kg)), (oW, .inr (2, [.ref orc, .int rn])), (orc, .inl (cI, 415, .inl rc))]) ⟨hx, hb, hml, hown, hts⟩ (ct_P_castlingTargets l dC dI cI cL cR oP osq okg sd rt ps sq kg hy2007) mm_99 mm_100 mm_101 mm_98 mm_15 hd_P_castlingTargets (by decide) qq_00 hP hD hK hS hA hT hN (q0 := 0) (ci := 1) rfl rfl [0, 1, 2] [3, 4] [2, 3, 4, 0, 1] rfl rfl rfl (by decide) rfl hl.1 rfl (Nat.le_of_ble_eq_true rfl) dd_P_listCandidates_57 (fun H locs hP hD hS => ?_)
            refine W.eq (g2 := F0 m 60 ls [.long r2007, .long r2006, .int x2, .ref oP]) rfl ?_
            refine lv_lor hx hb dd_P_listCandidates_60 ?_
            refine lv_aload_n hx hb dd_P_listCandidates_61 rfl (lv_at hl 2 rfl) ?_
            obtain ⟨⟨rn_2008, rc_2009⟩, hy2009, hf⟩ := qq_bd hf
            dsimp only at hf
            refine qq_V (As := [.int x2, .long (r2006 ||| r2007), .ref oW]) (rest := []) (wr := []) (wf := [(oP, .inr (1, [.ref osq, .ref okg, .int sd, .int rt, .int ps])), (osq, .inl (cI, 64, .inl sq)), (okg, .inl (cI, 2, .inl kg)), (oW, .inr (2, [.ref orc, .int rn_2008])), (orc, .inl (cI, 415, .inl rc_2009))]) ⟨hx, hb, hml, hown, hts⟩ (ct_P_addMoves l dC dI cI cL cR oP osq okg oW orc sd rt ps sq kg rn rc x2 (r2006 ||| r2007) hy2009) mm_47 mm_48 mm_49 mm_46 mm_15 hd_P_addMoves (by decide) qq_00 hP hD hK hS hA hT hN (q0 := 0) (ci := 1) rfl rfl [0, 1, 2, 3, 4] [] [0, 1, 2, 3, 4] rfl rfl rfl (by decide) rfl hl.1 rfl (Nat.le_of_ble_eq_true rfl) dd_P_listCandidates_62 (fun H locs hP hD hS => ?_)
            refine W.eq (g2 := F0 m 65 ls []) rfl ?_
            refine lv_goto (tgt := 91) hx hb dd_P_listCandidates_65 (by decide) ?_
            exact hJ91 rn_2008 rc_2009 x2 _ _ _ (lv_sub hl [1, 2, 3] rfl) hP hD hS hf
        · replace hf := qq_t hc hf
          refine lv_aload_n hx hb dd_P_listCandidates_33 rfl (lv_at hl 1 rfl) ?_
          refine lv_iload_n hx hb dd_P_listCandidates_34 rfl (lv_at hl 3 rfl) ?_
          refine lv_aload_n hx hb dd_P_listCandidates_35 rfl (lv_at hl 2 rfl) ?_
          obtain ⟨⟨rn_2010, rc_2011⟩, hy2011, hf⟩ := qq_bd hf
          dsimp only at hf
          refine qq_V (As := [.int x2, .ref oW]) (rest := []) (wr := []) (wf := [(oP, .inr (1, [.ref osq, .ref okg, .int sd, .int rt, .int ps])), (osq, .inl (cI, 64, .inl sq)), (okg, .inl (cI, 2, .inl kg)), (oW, .inr (2, [.ref orc, .int rn_2010])), (orc, .inl (cI, 415, .inl rc_2011))]) ⟨hx, hb, hml, hown, hts⟩ (ct_P_addPawnMoves l dC dI cI cL cR oP osq okg oW orc sd rt ps sq kg rn rc x2 hy2011) mm_103 mm_104 mm_105 mm_102 mm_15 hd_P_addPawnMoves (by decide) qq_00 hP hD hK hS hA hT hN (q0 := 0) (ci := 1) rfl rfl [0, 1, 2, 3, 4] [] [0, 1, 2, 3, 4] rfl rfl rfl (by decide) rfl hl.1 rfl (Nat.le_of_ble_eq_true rfl) dd_P_listCandidates_36 (fun H locs hP hD hS => ?_)
          refine W.eq (g2 := F0 m 39 ls []) rfl ?_
          refine lv_goto (tgt := 91) hx hb dd_P_listCandidates_39 (by decide) ?_
          exact hJ91 rn_2010 rc_2011 x2 _ _ _ (lv_sub hl [1, 2, 3] rfl) hP hD hS hf
  rw [fn_P_listCandidates] at hf
  refine lv_aload_n hx hb dd_P_listCandidates_0 rfl (lv_at hl 1 rfl) ?_
  refine lv_iconst (v := 0) hx hb dd_P_listCandidates_1 (by decide) ?_
  refine va_put (D := (dC, dI)) (ci := 2) (v := .int 0) (ty := .int) (C := RR_W) (T := FF_W) (N := 2) hx hb hts uu_W tt_W tt_W_ok nn_W hown hK hP hD hS 3 rfl rfl 1 (by decide) (hts _ mm_106) (fun _ h9 => h9) rfl (by decide +kernel) rfl rfl (Nat.le_of_ble_eq_true rfl) dd_P_listCandidates_2 (fun H locs hP hD hS => ?_)
  have hP : va_P (dC, dI) classes [(oP, .inr (1, [.ref osq, .ref okg, .int sd, .int rt, .int ps])), (osq, .inl (cI, 64, .inl sq)), (okg, .inl (cI, 2, .inl kg)), (oW, .inr (2, [.ref orc, .int 0])), (orc, .inl (cI, 415, .inl rc))] H := hP
  have hD : va_D A [(oP, .inr (1, [.ref osq, .ref okg, .int sd, .int rt, .int ps])), (osq, .inl (cI, 64, .inl sq)), (okg, .inl (cI, 2, .inl kg)), (oW, .inr (2, [.ref orc, .int 0])), (orc, .inl (cI, 415, .inl rc))] := hD
  refine lv_iconst (v := 0) hx hb dd_P_listCandidates_5 (by decide) ?_
  refine lv_istore_n (lv' := [(2, .int 0), (0, .ref oP), (1, .ref oW)]) hx hb dd_P_listCandidates_6 rfl hl (by decide) rfl (fun ls hl => ?_)
  exact hL7 qq_FU 0 rc 0 _ _ _ (lv_sub hl [1, 2, 0] rfl) hP hD hS hf
theorem dd_P_besideOf_0 : decode bb_P_besideOf 0 = .ok (.iload_n 0, 1) := by decide +kernel
theorem dd_P_besideOf_1 : decode bb_P_besideOf 1 = .ok (.bipush 8, 2) := by decide +kernel
theorem dd_P_besideOf_3 : decode bb_P_besideOf 3 = .ok (.idiv, 1) := by decide +kernel
theorem dd_P_besideOf_4 : decode bb_P_besideOf 4 = .ok (.bipush 8, 2) := by decide +kernel
theorem dd_P_besideOf_6 : decode bb_P_besideOf 6 = .ok (.imul, 1) := by decide +kernel
theorem dd_P_besideOf_7 : decode bb_P_besideOf 7 = .ok (.iload_n 1, 1) := by decide +kernel
theorem dd_P_besideOf_8 : decode bb_P_besideOf 8 = .ok (.bipush 8, 2) := by decide +kernel
theorem dd_P_besideOf_10 : decode bb_P_besideOf 10 = .ok (.irem, 1) := by decide +kernel
theorem dd_P_besideOf_11 : decode bb_P_besideOf 11 = .ok (.iadd, 1) := by decide +kernel
theorem dd_P_besideOf_12 : decode bb_P_besideOf 12 = .ok (.ireturn, 1) := by decide +kernel
abbrev ty_P_besideOf : Type := Int32
noncomputable def fn_P_besideOf (a0 : Int32) (a1 : Int32) : Option ty_P_besideOf := some (((a0 / 8) * 8) + (a1 - a1 / 8 * 8))
abbrev rm_P_besideOf : Room := { frames := 0, cells := 0, slots := 0, locals := 0 }
set_option maxHeartbeats 4000000 in
set_option maxRecDepth 100000 in
theorem ct_P_besideOf (l : Launch) (dC : Nat → ClassId) (dI : Nat → Nat → Nat) (cI cL cR : ClassId) (a0 : Int32) (a1 : Int32) {rr : Int32} (hf : fn_P_besideOf a0 a1 = some rr) : qq_det l yy_P_besideOf (ww_of yy_P_besideOf bb_P_besideOf 2 (some .int)) rm_P_besideOf (dC, dI) (qq_ty cI cL cR) [.int a0, .int a1] [] (some (.int rr)) [] := by
  refine qq_of (own := RR_P) (by decide) rfl (Nat.le_of_ble_eq_true rfl) ?_
  intro p e s m below meth c A Q ls hx hb hml hr hlocks hown hts hK hA hT hN hP hD hS hl hQ
  have hl : lv_has ls 2 [(0, .int a0), (1, .int a1)] := hl
  rw [fn_P_besideOf] at hf
  refine lv_iload_n hx hb dd_P_besideOf_0 rfl (lv_at hl 0 rfl) ?_
  refine lv_bipush (v := 8) hx hb dd_P_besideOf_1 (by decide) ?_
  refine lv_idiv hx hb dd_P_besideOf_3 (by decide) ?_
  refine lv_bipush (v := 8) hx hb dd_P_besideOf_4 (by decide) ?_
  refine lv_imul hx hb dd_P_besideOf_6 ?_
  refine lv_iload_n hx hb dd_P_besideOf_7 rfl (lv_at hl 1 rfl) ?_
  refine lv_bipush (v := 8) hx hb dd_P_besideOf_8 (by decide) ?_
  refine lv_irem hx hb dd_P_besideOf_10 (by decide) ?_
  refine lv_iadd hx hb dd_P_besideOf_11 ?_
  cases hf
  exact qq_iret hx hb hr hlocks hQ hP hD hK hS dd_P_besideOf_12
theorem dd_P_isCastling_0 : decode bb_P_isCastling 0 = .ok (.iload_n 1, 1) := by decide +kernel
theorem dd_P_isCastling_1 : decode bb_P_isCastling 1 = .ok (.iload_n 0, 1) := by decide +kernel
theorem dd_P_isCastling_2 : decode bb_P_isCastling 2 = .ok (.isub, 1) := by decide +kernel
theorem dd_P_isCastling_3 : decode bb_P_isCastling 3 = .ok (.invokestatic 165, 3) := by decide +kernel
theorem dd_P_isCastling_6 : decode bb_P_isCastling 6 = .ok (.iconst 2, 1) := by decide +kernel
theorem dd_P_isCastling_7 : decode bb_P_isCastling 7 = .ok (.if_icmp .ne 7, 3) := by decide +kernel
theorem dd_P_isCastling_10 : decode bb_P_isCastling 10 = .ok (.iconst 1, 1) := by decide +kernel
theorem dd_P_isCastling_11 : decode bb_P_isCastling 11 = .ok (.goto 4, 3) := by decide +kernel
theorem dd_P_isCastling_14 : decode bb_P_isCastling 14 = .ok (.iconst 0, 1) := by decide +kernel
theorem dd_P_isCastling_15 : decode bb_P_isCastling 15 = .ok (.ireturn, 1) := by decide +kernel
abbrev ty_P_isCastling : Type := Int32
noncomputable def bk_P_isCastling_15 (a0 : Int32) (a1 : Int32) (s0 : Int32) : Option ty_P_isCastling := qq_ck (qq_b s0) <| some s0
noncomputable def fn_P_isCastling (a0 : Int32) (a1 : Int32) : Option ty_P_isCastling := if (if 0 ≤ (a1 - a0) then (a1 - a0) else 0 - (a1 - a0)) = 2 then (bk_P_isCastling_15 a0 a1 1) else (bk_P_isCastling_15 a0 a1 0)
abbrev rm_P_isCastling : Room := { frames := 1, cells := 0, slots := 0, locals := 21 }
set_option maxHeartbeats 4000000 in
set_option maxRecDepth 100000 in
theorem ct_P_isCastling (l : Launch) (dC : Nat → ClassId) (dI : Nat → Nat → Nat) (cI cL cR : ClassId) (a0 : Int32) (a1 : Int32) {rr : Int32} (hf : fn_P_isCastling a0 a1 = some rr) : qq_det l yy_P_isCastling (ww_of yy_P_isCastling bb_P_isCastling 2 (some .boolean)) rm_P_isCastling (dC, dI) (qq_ty cI cL cR) [.int a0, .int a1] [] (some (.int rr)) [] := by
  refine qq_of (own := RR_P) (by decide) rfl (Nat.le_of_ble_eq_true rfl) ?_
  intro p e s m below meth c A Q ls hx hb hml hr hlocks hown hts hK hA hT hN hP hD hS hl hQ
  have hl : lv_has ls 2 [(0, .int a0), (1, .int a1)] := hl
  have hJ15 : ∀ (s0 : Int32) (H : Heap) (locs : List Loc) (ls : Array Slot), lv_has ls 2 [] → va_P (dC, dI) classes [] H → va_D A [] → va_S A s.heap H locs → bk_P_isCastling_15 a0 a1 s0 = some rr → W p l e rm_P_isCastling s m ([.int a0, .int a1] : List Value).toArray below meth c H locs 0 0 Q (F0 m 15 ls [.int s0]) := by
    intro s0 H locs ls hl hP hD hS hf
    rw [bk_P_isCastling_15] at hf
    obtain ⟨hzb, hf⟩ := qq_ckE hf
    cases hf
    exact qq_zret hx hb hr (qq_bE hzb) hlocks hQ hP hD hK hS dd_P_isCastling_15
  rw [fn_P_isCastling] at hf
  refine lv_iload_n hx hb dd_P_isCastling_0 rfl (lv_at hl 1 rfl) ?_
  refine lv_iload_n hx hb dd_P_isCastling_1 rfl (lv_at hl 0 rfl) ?_
  refine lv_isub hx hb dd_P_isCastling_2 ?_
  refine va_mabs hx hb (hml.trans hl.1.symm) hown (hts _ mm_107) (hts _ mm_108) (hts _ mm_62) (hts _ mm_109) (by decide) (Nat.le_of_ble_eq_true rfl) (by decide) (by decide) dd_P_isCastling_3 ?_
  refine lv_iconst (v := 2) hx hb dd_P_isCastling_6 (by decide) ?_
  refine lv_icmp_ne (tgt := 14) hx hb dd_P_isCastling_7 (by decide) (fun hc => ?_) (fun hc => ?_)
  · replace hf := qq_f hc hf
    refine lv_iconst (v := 0) hx hb dd_P_isCastling_14 (by decide) ?_
    exact hJ15 0 _ _ _ (lv_sub hl [] rfl) hP hD hS hf
  · replace hf := qq_t hc hf
    refine lv_iconst (v := 1) hx hb dd_P_isCastling_10 (by decide) ?_
    refine lv_goto (tgt := 15) hx hb dd_P_isCastling_11 (by decide) ?_
    exact hJ15 1 _ _ _ (lv_sub hl [] rfl) hP hD hS hf
theorem dd_P_castlingCorner_0 : decode bb_P_castlingCorner 0 = .ok (.iload_n 0, 1) := by decide +kernel
theorem dd_P_castlingCorner_1 : decode bb_P_castlingCorner 1 = .ok (.bipush 8, 2) := by decide +kernel
theorem dd_P_castlingCorner_3 : decode bb_P_castlingCorner 3 = .ok (.idiv, 1) := by decide +kernel
theorem dd_P_castlingCorner_4 : decode bb_P_castlingCorner 4 = .ok (.bipush 8, 2) := by decide +kernel
theorem dd_P_castlingCorner_6 : decode bb_P_castlingCorner 6 = .ok (.imul, 1) := by decide +kernel
theorem dd_P_castlingCorner_7 : decode bb_P_castlingCorner 7 = .ok (.iload_n 1, 1) := by decide +kernel
theorem dd_P_castlingCorner_8 : decode bb_P_castlingCorner 8 = .ok (.iload_n 0, 1) := by decide +kernel
theorem dd_P_castlingCorner_9 : decode bb_P_castlingCorner 9 = .ok (.if_icmp .le 8, 3) := by decide +kernel
theorem dd_P_castlingCorner_12 : decode bb_P_castlingCorner 12 = .ok (.bipush 7, 2) := by decide +kernel
theorem dd_P_castlingCorner_14 : decode bb_P_castlingCorner 14 = .ok (.goto 4, 3) := by decide +kernel
theorem dd_P_castlingCorner_17 : decode bb_P_castlingCorner 17 = .ok (.iconst 0, 1) := by decide +kernel
theorem dd_P_castlingCorner_18 : decode bb_P_castlingCorner 18 = .ok (.iadd, 1) := by decide +kernel
theorem dd_P_castlingCorner_19 : decode bb_P_castlingCorner 19 = .ok (.ireturn, 1) := by decide +kernel
abbrev ty_P_castlingCorner : Type := Int32
noncomputable def bk_P_castlingCorner_18 (a0 : Int32) (a1 : Int32) (s0 : Int32) (s1 : Int32) : Option ty_P_castlingCorner := some (s0 + s1)
noncomputable def fn_P_castlingCorner (a0 : Int32) (a1 : Int32) : Option ty_P_castlingCorner := if a1 ≤ a0 then (bk_P_castlingCorner_18 a0 a1 ((a0 / 8) * 8) 0) else (bk_P_castlingCorner_18 a0 a1 ((a0 / 8) * 8) 7)
abbrev rm_P_castlingCorner : Room := { frames := 0, cells := 0, slots := 0, locals := 0 }
set_option maxHeartbeats 4000000 in
set_option maxRecDepth 100000 in
theorem ct_P_castlingCorner (l : Launch) (dC : Nat → ClassId) (dI : Nat → Nat → Nat) (cI cL cR : ClassId) (a0 : Int32) (a1 : Int32) {rr : Int32} (hf : fn_P_castlingCorner a0 a1 = some rr) : qq_det l yy_P_castlingCorner (ww_of yy_P_castlingCorner bb_P_castlingCorner 2 (some .int)) rm_P_castlingCorner (dC, dI) (qq_ty cI cL cR) [.int a0, .int a1] [] (some (.int rr)) [] := by
  refine qq_of (own := RR_P) (by decide) rfl (Nat.le_of_ble_eq_true rfl) ?_
  intro p e s m below meth c A Q ls hx hb hml hr hlocks hown hts hK hA hT hN hP hD hS hl hQ
  have hl : lv_has ls 2 [(0, .int a0), (1, .int a1)] := hl
  have hJ18 : ∀ (s0 : Int32) (s1 : Int32) (H : Heap) (locs : List Loc) (ls : Array Slot), lv_has ls 2 [] → va_P (dC, dI) classes [] H → va_D A [] → va_S A s.heap H locs → bk_P_castlingCorner_18 a0 a1 s0 s1 = some rr → W p l e rm_P_castlingCorner s m ([.int a0, .int a1] : List Value).toArray below meth c H locs 0 0 Q (F0 m 18 ls [.int s1, .int s0]) := by
    intro s0 s1 H locs ls hl hP hD hS hf
    rw [bk_P_castlingCorner_18] at hf
    refine lv_iadd hx hb dd_P_castlingCorner_18 ?_
    cases hf
    exact qq_iret hx hb hr hlocks hQ hP hD hK hS dd_P_castlingCorner_19
  rw [fn_P_castlingCorner] at hf
  refine lv_iload_n hx hb dd_P_castlingCorner_0 rfl (lv_at hl 0 rfl) ?_
  refine lv_bipush (v := 8) hx hb dd_P_castlingCorner_1 (by decide) ?_
  refine lv_idiv hx hb dd_P_castlingCorner_3 (by decide) ?_
  refine lv_bipush (v := 8) hx hb dd_P_castlingCorner_4 (by decide) ?_
  refine lv_imul hx hb dd_P_castlingCorner_6 ?_
  refine lv_iload_n hx hb dd_P_castlingCorner_7 rfl (lv_at hl 1 rfl) ?_
  refine lv_iload_n hx hb dd_P_castlingCorner_8 rfl (lv_at hl 0 rfl) ?_
  refine lv_icmp_le (tgt := 17) hx hb dd_P_castlingCorner_9 (by decide) (fun hc => ?_) (fun hc => ?_)
  · replace hf := qq_t hc hf
    refine lv_iconst (v := 0) hx hb dd_P_castlingCorner_17 (by decide) ?_
    exact hJ18 ((a0 / 8) * 8) 0 _ _ _ (lv_sub hl [] rfl) hP hD hS hf
  · replace hf := qq_f hc hf
    refine lv_bipush (v := 7) hx hb dd_P_castlingCorner_12 (by decide) ?_
    refine lv_goto (tgt := 18) hx hb dd_P_castlingCorner_14 (by decide) ?_
    exact hJ18 ((a0 / 8) * 8) 7 _ _ _ (lv_sub hl [] rfl) hP hD hS hf
