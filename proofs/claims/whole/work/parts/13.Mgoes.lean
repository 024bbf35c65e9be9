theorem dd_M_goes_0 : decode bb_M_goes 0 = .ok (.aload_n 0, 1) := by decide +kernel
theorem dd_M_goes_1 : decode bb_M_goes 1 = .ok (.getfield 7, 3) := by decide +kernel
theorem dd_M_goes_4 : decode bb_M_goes 4 = .ok (.iload_n 1, 1) := by decide +kernel
theorem dd_M_goes_5 : decode bb_M_goes 5 = .ok (.iaload, 1) := by decide +kernel
theorem dd_M_goes_6 : decode bb_M_goes 6 = .ok (.aload_n 0, 1) := by decide +kernel
theorem dd_M_goes_7 : decode bb_M_goes 7 = .ok (.getfield 95, 3) := by decide +kernel
theorem dd_M_goes_10 : decode bb_M_goes 10 = .ok (.invokestatic 83, 3) := by decide +kernel
theorem dd_M_goes_13 : decode bb_M_goes 13 = .ok (.ifCond .eq 19, 3) := by decide +kernel
theorem dd_M_goes_16 : decode bb_M_goes 16 = .ok (.aload_n 0, 1) := by decide +kernel
theorem dd_M_goes_17 : decode bb_M_goes 17 = .ok (.getfield 7, 3) := by decide +kernel
theorem dd_M_goes_20 : decode bb_M_goes 20 = .ok (.iload_n 2, 1) := by decide +kernel
theorem dd_M_goes_21 : decode bb_M_goes 21 = .ok (.iaload, 1) := by decide +kernel
theorem dd_M_goes_22 : decode bb_M_goes 22 = .ok (.aload_n 0, 1) := by decide +kernel
theorem dd_M_goes_23 : decode bb_M_goes 23 = .ok (.getfield 95, 3) := by decide +kernel
theorem dd_M_goes_26 : decode bb_M_goes 26 = .ok (.invokestatic 83, 3) := by decide +kernel
theorem dd_M_goes_29 : decode bb_M_goes 29 = .ok (.ifCond .eq 5, 3) := by decide +kernel
theorem dd_M_goes_32 : decode bb_M_goes 32 = .ok (.iconst 0, 1) := by decide +kernel
theorem dd_M_goes_33 : decode bb_M_goes 33 = .ok (.ireturn, 1) := by decide +kernel
theorem dd_M_goes_34 : decode bb_M_goes 34 = .ok (.aload_n 0, 1) := by decide +kernel
theorem dd_M_goes_35 : decode bb_M_goes 35 = .ok (.getfield 7, 3) := by decide +kernel
theorem dd_M_goes_38 : decode bb_M_goes 38 = .ok (.iload_n 1, 1) := by decide +kernel
theorem dd_M_goes_39 : decode bb_M_goes 39 = .ok (.iaload, 1) := by decide +kernel
theorem dd_M_goes_40 : decode bb_M_goes 40 = .ok (.invokestatic 73, 3) := by decide +kernel
theorem dd_M_goes_43 : decode bb_M_goes 43 = .ok (.istore 4, 2) := by decide +kernel
theorem dd_M_goes_45 : decode bb_M_goes 45 = .ok (.iload 4, 2) := by decide +kernel
theorem dd_M_goes_47 : decode bb_M_goes 47 = .ok (.iconst 1, 1) := by decide +kernel
theorem dd_M_goes_48 : decode bb_M_goes 48 = .ok (.if_icmp .ne 11, 3) := by decide +kernel
theorem dd_M_goes_51 : decode bb_M_goes 51 = .ok (.aload_n 0, 1) := by decide +kernel
theorem dd_M_goes_52 : decode bb_M_goes 52 = .ok (.iload_n 1, 1) := by decide +kernel
theorem dd_M_goes_53 : decode bb_M_goes 53 = .ok (.iload_n 2, 1) := by decide +kernel
theorem dd_M_goes_54 : decode bb_M_goes 54 = .ok (.iload_n 3, 1) := by decide +kernel
theorem dd_M_goes_55 : decode bb_M_goes 55 = .ok (.invokevirtual 109, 3) := by decide +kernel
theorem dd_M_goes_58 : decode bb_M_goes 58 = .ok (.ireturn, 1) := by decide +kernel
theorem dd_M_goes_59 : decode bb_M_goes 59 = .ok (.iload_n 3, 1) := by decide +kernel
theorem dd_M_goes_60 : decode bb_M_goes 60 = .ok (.ifCond .ne 32, 3) := by decide +kernel
theorem dd_M_goes_63 : decode bb_M_goes 63 = .ok (.aload_n 0, 1) := by decide +kernel
theorem dd_M_goes_64 : decode bb_M_goes 64 = .ok (.iload_n 1, 1) := by decide +kernel
theorem dd_M_goes_65 : decode bb_M_goes 65 = .ok (.iload_n 2, 1) := by decide +kernel
theorem dd_M_goes_66 : decode bb_M_goes 66 = .ok (.invokevirtual 86, 3) := by decide +kernel
theorem dd_M_goes_69 : decode bb_M_goes 69 = .ok (.ifCond .ne 19, 3) := by decide +kernel
theorem dd_M_goes_72 : decode bb_M_goes 72 = .ok (.iload 4, 2) := by decide +kernel
theorem dd_M_goes_74 : decode bb_M_goes 74 = .ok (.bipush 6, 2) := by decide +kernel
theorem dd_M_goes_76 : decode bb_M_goes 76 = .ok (.if_icmp .ne 16, 3) := by decide +kernel
theorem dd_M_goes_79 : decode bb_M_goes 79 = .ok (.aload_n 0, 1) := by decide +kernel
theorem dd_M_goes_80 : decode bb_M_goes 80 = .ok (.iload_n 1, 1) := by decide +kernel
theorem dd_M_goes_81 : decode bb_M_goes 81 = .ok (.iload_n 2, 1) := by decide +kernel
theorem dd_M_goes_82 : decode bb_M_goes 82 = .ok (.invokevirtual 112, 3) := by decide +kernel
theorem dd_M_goes_85 : decode bb_M_goes 85 = .ok (.ifCond .eq 7, 3) := by decide +kernel
theorem dd_M_goes_88 : decode bb_M_goes 88 = .ok (.iconst 1, 1) := by decide +kernel
theorem dd_M_goes_89 : decode bb_M_goes 89 = .ok (.goto 4, 3) := by decide +kernel
theorem dd_M_goes_92 : decode bb_M_goes 92 = .ok (.iconst 0, 1) := by decide +kernel
theorem dd_M_goes_93 : decode bb_M_goes 93 = .ok (.ireturn, 1) := by decide +kernel
abbrev ty_M_goes : Type := Int32
noncomputable def bk_M_goes_93 (msd : Int32) (mrt : Int32) (mps : Int32) (bd : Nat → Int32) (a1 : Int32) (a2 : Int32) (a3 : Int32) (s0 : Int32) : Option ty_M_goes := qq_ck (qq_b s0) <| some s0
noncomputable def bk_M_goes_92 (msd : Int32) (mrt : Int32) (mps : Int32) (bd : Nat → Int32) (a1 : Int32) (a2 : Int32) (a3 : Int32) : Option ty_M_goes := bk_M_goes_93 msd mrt mps bd a1 a2 a3 0
noncomputable def bk_M_goes_88 (msd : Int32) (mrt : Int32) (mps : Int32) (bd : Nat → Int32) (a1 : Int32) (a2 : Int32) (a3 : Int32) : Option ty_M_goes := bk_M_goes_93 msd mrt mps bd a1 a2 a3 1
noncomputable def bk_M_goes_32 (msd : Int32) (mrt : Int32) (mps : Int32) (bd : Nat → Int32) (a1 : Int32) (a2 : Int32) (a3 : Int32) : Option ty_M_goes := some (0 : Int32)
noncomputable def fn_M_goes (msd : Int32) (mrt : Int32) (mps : Int32) (bd : Nat → Int32) (a1 : Int32) (a2 : Int32) (a3 : Int32) : Option ty_M_goes := qq_ck (qq_in a1 64) <| (fn_M_isOf (bd a1.toNatClampNeg) msd).bind fun r2 => if r2 = 0 then (bk_M_goes_32 msd mrt mps bd a1 a2 a3) else (qq_ck (qq_in a2 64) <| (fn_M_isOf (bd a2.toNatClampNeg) msd).bind fun r4 => if r4 = 0 then (qq_ck (qq_in a1 64) <| (fn_M_kindOf (bd a1.toNatClampNeg)).bind fun r6 => if r6 = 1 then ((fn_M_pawnGoes msd mps bd a1 a2 a3).bind fun r9 => qq_ck (qq_b r9) <| some r9) else (if a3 = 0 then ((fn_M_reaches bd a1 a2).bind fun r7 => if r7 = 0 then (if r6 = 6 then ((fn_M_castles msd mrt bd a1 a2).bind fun r8 => if r8 = 0 then (bk_M_goes_92 msd mrt mps bd a1 a2 a3) else (bk_M_goes_88 msd mrt mps bd a1 a2 a3)) else (bk_M_goes_92 msd mrt mps bd a1 a2 a3)) else (bk_M_goes_88 msd mrt mps bd a1 a2 a3)) else (bk_M_goes_92 msd mrt mps bd a1 a2 a3))) else (bk_M_goes_32 msd mrt mps bd a1 a2 a3))
abbrev rm_M_goes : Room := { frames := 6, cells := 0, slots := 0, locals := 140 }
set_option maxHeartbeats 4000000 in
set_option maxRecDepth 100000 in
theorem ct_M_goes (l : Launch) (dC : Nat → ClassId) (dI : Nat → Nat → Nat) (cI cL cR : ClassId) (oM obd opa opS opR opG opP opQ okp okS okR okP okQ oli : Nat) (mth : Int32) (mpl : Int32) (msd : Int32) (mrt : Int32) (mps : Int32) (mqt : Int32) (mmd : Int32) (bd : Nat → Int32) (pa : Nat → Int32) (pS : Nat → Int32) (pR : Nat → Int32) (pG : Nat → Int32) (pP : Nat → Int32) (pQ : Nat → Int32) (kp : Nat → Int32) (kS : Nat → Int32) (kR : Nat → Int32) (kP : Nat → Int32) (kQ : Nat → Int32) (li : Nat → Int32) (a1 : Int32) (a2 : Int32) (a3 : Int32) {rr : Int32} (hf : fn_M_goes msd mrt mps bd a1 a2 a3 = some rr) : qq_det l yy_M_goes (ww_of yy_M_goes bb_M_goes 5 (some .boolean)) rm_M_goes (dC, dI) (qq_ty cI cL cR) [.ref oM, .int a1, .int a2, .int a3] [(oM, .inr (5, [.int mth, .int mpl, .ref obd, .int msd, .int mrt, .int mps, .int mqt, .int mmd, .ref opa, .ref opS, .ref opR, .ref opG, .ref opP, .ref opQ, .ref okp, .ref okS, .ref okR, .ref okP, .ref okQ, .ref oli])), (obd, .inl (cI, 64, .inl bd)), (opa, .inl (cI, 9664, .inl pa)), (opS, .inl (cI, 151, .inl pS)), (opR, .inl (cI, 151, .inl pR)), (opG, .inl (cI, 151, .inl pG)), (opP, .inl (cI, 151, .inl pP)), (opQ, .inl (cI, 151, .inl pQ)), (okp, .inl (cI, 256, .inl kp)), (okS, .inl (cI, 4, .inl kS)), (okR, .inl (cI, 4, .inl kR)), (okP, .inl (cI, 4, .inl kP)), (okQ, .inl (cI, 4, .inl kQ)), (oli, .inl (cI, 1320, .inl li))] (some (.int rr)) [(oM, .inr (5, [.int mth, .int mpl, .ref obd, .int msd, .int mrt, .int mps, .int mqt, .int mmd, .ref opa, .ref opS, .ref opR, .ref opG, .ref opP, .ref opQ, .ref okp, .ref okS, .ref okR, .ref okP, .ref okQ, .ref oli])), (obd, .inl (cI, 64, .inl bd)), (opa, .inl (cI, 9664, .inl pa)), (opS, .inl (cI, 151, .inl pS)), (opR, .inl (cI, 151, .inl pR)), (opG, .inl (cI, 151, .inl pG)), (opP, .inl (cI, 151, .inl pP)), (opQ, .inl (cI, 151, .inl pQ)), (okp, .inl (cI, 256, .inl kp)), (okS, .inl (cI, 4, .inl kS)), (okR, .inl (cI, 4, .inl kR)), (okP, .inl (cI, 4, .inl kP)), (okQ, .inl (cI, 4, .inl kQ)), (oli, .inl (cI, 1320, .inl li))] := by
  refine qq_of (own := RR_M) (by decide) rfl (Nat.le_of_ble_eq_true rfl) ?_
  intro p e s m below meth c A Q ls hx hb hml hr hlocks hown hts hK hA hT hN hP hD hS hl hQ
  have hl : lv_has ls 5 [(0, .ref oM), (1, .int a1), (2, .int a2), (3, .int a3)] := hl
  have hJ93 : ∀ (s0 : Int32) (H : Heap) (locs : List Loc) (ls : Array Slot), lv_has ls 5 [] → va_P (dC, dI) classes [(oM, .inr (5, [.int mth, .int mpl, .ref obd, .int msd, .int mrt, .int mps, .int mqt, .int mmd, .ref opa, .ref opS, .ref opR, .ref opG, .ref opP, .ref opQ, .ref okp, .ref okS, .ref okR, .ref okP, .ref okQ, .ref oli])), (obd, .inl (cI, 64, .inl bd)), (opa, .inl (cI, 9664, .inl pa)), (opS, .inl (cI, 151, .inl pS)), (opR, .inl (cI, 151, .inl pR)), (opG, .inl (cI, 151, .inl pG)), (opP, .inl (cI, 151, .inl pP)), (opQ, .inl (cI, 151, .inl pQ)), (okp, .inl (cI, 256, .inl kp)), (okS, .inl (cI, 4, .inl kS)), (okR, .inl (cI, 4, .inl kR)), (okP, .inl (cI, 4, .inl kP)), (okQ, .inl (cI, 4, .inl kQ)), (oli, .inl (cI, 1320, .inl li))] H → va_D A [(oM, .inr (5, [.int mth, .int mpl, .ref obd, .int msd, .int mrt, .int mps, .int mqt, .int mmd, .ref opa, .ref opS, .ref opR, .ref opG, .ref opP, .ref opQ, .ref okp, .ref okS, .ref okR, .ref okP, .ref okQ, .ref oli])), (obd, .inl (cI, 64, .inl bd)), (opa, .inl (cI, 9664, .inl pa)), (opS, .inl (cI, 151, .inl pS)), (opR, .inl (cI, 151, .inl pR)), (opG, .inl (cI, 151, .inl pG)), (opP, .inl (cI, 151, .inl pP)), (opQ, .inl (cI, 151, .inl pQ)), (okp, .inl (cI, 256, .inl kp)), (okS, .inl (cI, 4, .inl kS)), (okR, .inl (cI, 4, .inl kR)), (okP, .inl (cI, 4, .inl kP)), (okQ, .inl (cI, 4, .inl kQ)), (oli, .inl (cI, 1320, .inl li))] → va_S A s.heap H locs → bk_M_goes_93 msd mrt mps bd a1 a2 a3 s0 = some rr → W p l e rm_M_goes s m ([.ref oM, .int a1, .int a2, .int a3] : List Value).toArray below meth c H locs 0 0 Q (F0 m 93 ls [.int s0]) := by
    intro s0 H locs ls hl hP hD hS hf
    rw [bk_M_goes_93] at hf
    obtain ⟨hzb, hf⟩ := qq_ckE hf
    cases hf
    exact qq_zret hx hb hr (qq_bE hzb) hlocks hQ hP hD hK hS dd_M_goes_93
  have hJ92 : ∀  (H : Heap) (locs : List Loc) (ls : Array Slot), lv_has ls 5 [] → va_P (dC, dI) classes [(oM, .inr (5, [.int mth, .int mpl, .ref obd, .int msd, .int mrt, .int mps, .int mqt, .int mmd, .ref opa, .ref opS, .ref opR, .ref opG, .ref opP, .ref opQ, .ref okp, .ref okS, .ref okR, .ref okP, .ref okQ, .ref oli])), (obd, .inl (cI, 64, .inl bd)), (opa, .inl (cI, 9664, .inl pa)), (opS, .inl (cI, 151, .inl pS)), (opR, .inl (cI, 151, .inl pR)), (opG, .inl (cI, 151, .inl pG)), (opP, .inl (cI, 151, .inl pP)), (opQ, .inl (cI, 151, .inl pQ)), (okp, .inl (cI, 256, .inl kp)), (okS, .inl (cI, 4, .inl kS)), (okR, .inl (cI, 4, .inl kR)), (okP, .inl (cI, 4, .inl kP)), (okQ, .inl (cI, 4, .inl kQ)), (oli, .inl (cI, 1320, .inl li))] H → va_D A [(oM, .inr (5, [.int mth, .int mpl, .ref obd, .int msd, .int mrt, .int mps, .int mqt, .int mmd, .ref opa, .ref opS, .ref opR, .ref opG, .ref opP, .ref opQ, .ref okp, .ref okS, .ref okR, .ref okP, .ref okQ, .ref oli])), (obd, .inl (cI, 64, .inl bd)), (opa, .inl (cI, 9664, .inl pa)), (opS, .inl (cI, 151, .inl pS)), (opR, .inl (cI, 151, .inl pR)), (opG, .inl (cI, 151, .inl pG)), (opP, .inl (cI, 151, .inl pP)), (opQ, .inl (cI, 151, .inl pQ)), (okp, .inl (cI, 256, .inl kp)), (okS, .inl (cI, 4, .inl kS)), (okR, .inl (cI, 4, .inl kR)), (okP, .inl (cI, 4, .inl kP)), (okQ, .inl (cI, 4, .inl kQ)), (oli, .inl (cI, 1320, .inl li))] → va_S A s.heap H locs → bk_M_goes_92 msd mrt mps bd a1 a2 a3 = some rr → W p l e rm_M_goes s m ([.ref oM, .int a1, .int a2, .int a3] : List Value).toArray below meth c H locs 0 0 Q (F0 m 92 ls []) := by
    intro  H locs ls hl hP hD hS hf
    rw [bk_M_goes_92] at hf
    refine lv_iconst (v := 0) hx hb dd_M_goes_92 (by decide) ?_
    exact hJ93 0 _ _ _ (lv_sub hl [] rfl) hP hD hS hf
  have hJ88 : ∀  (H : Heap) (locs : List Loc) (ls : Array Slot), lv_has ls 5 [] → va_P (dC, dI) classes [(oM, .inr (5, [.int mth, .int mpl, .ref obd, .int msd, .int mrt, .int mps, .int mqt, .int mmd, .ref opa, .ref opS, .ref opR, .ref opG, .ref opP, .ref opQ, .ref okp, .ref okS, .ref okR, .ref okP, .ref okQ, .ref oli])), (obd, .inl (cI, 64, .inl bd)), (opa, .inl (cI, 9664, .inl pa)), (opS, .inl (cI, 151, .inl pS)), (opR, .inl (cI, 151, .inl pR)), (opG, .inl (cI, 151, .inl pG)), (opP, .inl (cI, 151, .inl pP)), (opQ, .inl (cI, 151, .inl pQ)), (okp, .inl (cI, 256, .inl kp)), (okS, .inl (cI, 4, .inl kS)), (okR, .inl (cI, 4, .inl kR)), (okP, .inl (cI, 4, .inl kP)), (okQ, .inl (cI, 4, .inl kQ)), (oli, .inl (cI, 1320, .inl li))] H → va_D A [(oM, .inr (5, [.int mth, .int mpl, .ref obd, .int msd, .int mrt, .int mps, .int mqt, .int mmd, .ref opa, .ref opS, .ref opR, .ref opG, .ref opP, .ref opQ, .ref okp, .ref okS, .ref okR, .ref okP, .ref okQ, .ref oli])), (obd, .inl (cI, 64, .inl bd)), (opa, .inl (cI, 9664, .inl pa)), (opS, .inl (cI, 151, .inl pS)), (opR, .inl (cI, 151, .inl pR)), (opG, .inl (cI, 151, .inl pG)), (opP, .inl (cI, 151, .inl pP)), (opQ, .inl (cI, 151, .inl pQ)), (okp, .inl (cI, 256, .inl kp)), (okS, .inl (cI, 4, .inl kS)), (okR, .inl (cI, 4, .inl kR)), (okP, .inl (cI, 4, .inl kP)), (okQ, .inl (cI, 4, .inl kQ)), (oli, .inl (cI, 1320, .inl li))] → va_S A s.heap H locs → bk_M_goes_88 msd mrt mps bd a1 a2 a3 = some rr → W p l e rm_M_goes s m ([.ref oM, .int a1, .int a2, .int a3] : List Value).toArray below meth c H locs 0 0 Q (F0 m 88 ls []) := by
    intro  H locs ls hl hP hD hS hf
    rw [bk_M_goes_88] at hf
    refine lv_iconst (v := 1) hx hb dd_M_goes_88 (by decide) ?_
    refine lv_goto (tgt := 93) hx hb dd_M_goes_89 (by decide) ?_
    exact hJ93 1 _ _ _ (lv_sub hl [] rfl) hP hD hS hf
  have hJ32 : ∀  (H : Heap) (locs : List Loc) (ls : Array Slot), lv_has ls 5 [] → va_P (dC, dI) classes [(oM, .inr (5, [.int mth, .int mpl, .ref obd, .int msd, .int mrt, .int mps, .int mqt, .int mmd, .ref opa, .ref opS, .ref opR, .ref opG, .ref opP, .ref opQ, .ref okp, .ref okS, .ref okR, .ref okP, .ref okQ, .ref oli])), (obd, .inl (cI, 64, .inl bd)), (opa, .inl (cI, 9664, .inl pa)), (opS, .inl (cI, 151, .inl pS)), (opR, .inl (cI, 151, .inl pR)), (opG, .inl (cI, 151, .inl pG)), (opP, .inl (cI, 151, .inl pP)), (opQ, .inl (cI, 151, .inl pQ)), (okp, .inl (cI, 256, .inl kp)), (okS, .inl (cI, 4, .inl kS)), (okR, .inl (cI, 4, .inl kR)), (okP, .inl (cI, 4, .inl kP)), (okQ, .inl (cI, 4, .inl kQ)), (oli, .inl (cI, 1320, .inl li))] H → va_D A [(oM, .inr (5, [.int mth, .int mpl, .ref obd, .int msd, .int mrt, .int mps, .int mqt, .int mmd, .ref opa, .ref opS, .ref opR, .ref opG, .ref opP, .ref opQ, .ref okp, .ref okS, .ref okR, .ref okP, .ref okQ, .ref oli])), (obd, .inl (cI, 64, .inl bd)), (opa, .inl (cI, 9664, .inl pa)), (opS, .inl (cI, 151, .inl pS)), (opR, .inl (cI, 151, .inl pR)), (opG, .inl (cI, 151, .inl pG)), (opP, .inl (cI, 151, .inl pP)), (opQ, .inl (cI, 151, .inl pQ)), (okp, .inl (cI, 256, .inl kp)), (okS, .inl (cI, 4, .inl kS)), (okR, .inl (cI, 4, .inl kR)), (okP, .inl (cI, 4, .inl kP)), (okQ, .inl (cI, 4, .inl kQ)), (oli, .inl (cI, 1320, .inl li))] → va_S A s.heap H locs → bk_M_goes_32 msd mrt mps bd a1 a2 a3 = some rr → W p l e rm_M_goes s m ([.ref oM, .int a1, .int a2, .int a3] : List Value).toArray below meth c H locs 0 0 Q (F0 m 32 ls []) := by
    intro  H locs ls hl hP hD hS hf
    rw [bk_M_goes_32] at hf
    refine lv_iconst (v := 0) hx hb dd_M_goes_32 (by decide) ?_
    cases hf
    exact qq_zret hx hb hr rfl hlocks hQ hP hD hK hS dd_M_goes_33
  rw [fn_M_goes] at hf
  refine lv_aload_n hx hb dd_M_goes_0 rfl (lv_at hl 0 rfl) ?_
  refine va_get (D := (dC, dI)) (ci := 5) (v := .ref obd) (C := RR_M) (T := FF_M) (N := 20) hx hb hts uu_M hown hK hP 0 rfl rfl 2 (by decide) (hts _ mm_209) (fun _ h9 => h9) rfl dd_M_goes_1 ?_
  refine lv_iload_n hx hb dd_M_goes_4 rfl (lv_at hl 1 rfl) ?_
  obtain ⟨hi1, hf⟩ := qq_ckE hf
  refine va_iald (D := (dC, dI)) (f := bd) (n := 64) (cA := cI) hx hb hK hP 1 0 rfl rfl (qq_inE hi1) dd_M_goes_5 ?_
  refine lv_aload_n hx hb dd_M_goes_6 rfl (lv_at hl 0 rfl) ?_
  refine va_get (D := (dC, dI)) (ci := 5) (v := .int msd) (C := RR_M) (T := FF_M) (N := 20) hx hb hts uu_M hown hK hP 0 rfl rfl 3 (by decide) (hts _ mm_228) (fun _ h9 => h9) rfl dd_M_goes_7 ?_
  obtain ⟨r2, hy2, hf⟩ := qq_bd hf
  refine qq_S (As := [.int (bd a1.toNatClampNeg), .int msd]) (rest := []) (wr := [(oM, .inr (5, [.int mth, .int mpl, .ref obd, .int msd, .int mrt, .int mps, .int mqt, .int mmd, .ref opa, .ref opS, .ref opR, .ref opG, .ref opP, .ref opQ, .ref okp, .ref okS, .ref okR, .ref okP, .ref okQ, .ref oli])), (obd, .inl (cI, 64, .inl bd)), (opa, .inl (cI, 9664, .inl pa)), (opS, .inl (cI, 151, .inl pS)), (opR, .inl (cI, 151, .inl pR)), (opG, .inl (cI, 151, .inl pG)), (opP, .inl (cI, 151, .inl pP)), (opQ, .inl (cI, 151, .inl pQ)), (okp, .inl (cI, 256, .inl kp)), (okS, .inl (cI, 4, .inl kS)), (okR, .inl (cI, 4, .inl kR)), (okP, .inl (cI, 4, .inl kP)), (okQ, .inl (cI, 4, .inl kQ)), (oli, .inl (cI, 1320, .inl li))]) (wf := [(oM, .inr (5, [.int mth, .int mpl, .ref obd, .int msd, .int mrt, .int mps, .int mqt, .int mmd, .ref opa, .ref opS, .ref opR, .ref opG, .ref opP, .ref opQ, .ref okp, .ref okS, .ref okR, .ref okP, .ref okQ, .ref oli])), (obd, .inl (cI, 64, .inl bd)), (opa, .inl (cI, 9664, .inl pa)), (opS, .inl (cI, 151, .inl pS)), (opR, .inl (cI, 151, .inl pR)), (opG, .inl (cI, 151, .inl pG)), (opP, .inl (cI, 151, .inl pP)), (opQ, .inl (cI, 151, .inl pQ)), (okp, .inl (cI, 256, .inl kp)), (okS, .inl (cI, 4, .inl kS)), (okR, .inl (cI, 4, .inl kR)), (okP, .inl (cI, 4, .inl kP)), (okQ, .inl (cI, 4, .inl kQ)), (oli, .inl (cI, 1320, .inl li))]) ⟨hx, hb, hml, hown, hts⟩ (ct_M_isOf l dC dI cI cL cR (bd a1.toNatClampNeg) msd hy2) mm_241 mm_242 mm_240 mm_211 hd_M_isOf (by decide) qq_00 hP hD hK hS hA hT hN [] [0, 1, 2, 3, 4, 5, 6, 7, 8, 9, 10, 11, 12, 13] [0, 1, 2, 3, 4, 5, 6, 7, 8, 9, 10, 11, 12, 13] rfl rfl rfl (by decide) rfl hl.1 rfl (Nat.le_of_ble_eq_true rfl) dd_M_goes_10 (fun H locs hP hD hS => ?_)
  refine W.eq (g2 := F0 m 13 ls [.int r2]) rfl ?_
  refine lv_if_eq (tgt := 32) hx hb dd_M_goes_13 (by decide) (fun hc => ?_) (fun hc => ?_)
  · replace hf := qq_t hc hf
    exact hJ32  _ _ _ (lv_sub hl [] rfl) hP hD hS hf
  · replace hf := qq_f hc hf
    refine lv_aload_n hx hb dd_M_goes_16 rfl (lv_at hl 0 rfl) ?_
    refine va_get (D := (dC, dI)) (ci := 5) (v := .ref obd) (C := RR_M) (T := FF_M) (N := 20) hx hb hts uu_M hown hK hP 0 rfl rfl 2 (by decide) (hts _ mm_209) (fun _ h9 => h9) rfl dd_M_goes_17 ?_
    refine lv_iload_n hx hb dd_M_goes_20 rfl (lv_at hl 2 rfl) ?_
    obtain ⟨hi3, hf⟩ := qq_ckE hf
    refine va_iald (D := (dC, dI)) (f := bd) (n := 64) (cA := cI) hx hb hK hP 1 0 rfl rfl (qq_inE hi3) dd_M_goes_21 ?_
    refine lv_aload_n hx hb dd_M_goes_22 rfl (lv_at hl 0 rfl) ?_
    refine va_get (D := (dC, dI)) (ci := 5) (v := .int msd) (C := RR_M) (T := FF_M) (N := 20) hx hb hts uu_M hown hK hP 0 rfl rfl 3 (by decide) (hts _ mm_228) (fun _ h9 => h9) rfl dd_M_goes_23 ?_
    obtain ⟨r4, hy4, hf⟩ := qq_bd hf
    refine qq_S (As := [.int (bd a2.toNatClampNeg), .int msd]) (rest := []) (wr := [(oM, .inr (5, [.int mth, .int mpl, .ref obd, .int msd, .int mrt, .int mps, .int mqt, .int mmd, .ref opa, .ref opS, .ref opR, .ref opG, .ref opP, .ref opQ, .ref okp, .ref okS, .ref okR, .ref okP, .ref okQ, .ref oli])), (obd, .inl (cI, 64, .inl bd)), (opa, .inl (cI, 9664, .inl pa)), (opS, .inl (cI, 151, .inl pS)), (opR, .inl (cI, 151, .inl pR)), (opG, .inl (cI, 151, .inl pG)), (opP, .inl (cI, 151, .inl pP)), (opQ, .inl (cI, 151, .inl pQ)), (okp, .inl (cI, 256, .inl kp)), (okS, .inl (cI, 4, .inl kS)), (okR, .inl (cI, 4, .inl kR)), (okP, .inl (cI, 4, .inl kP)), (okQ, .inl (cI, 4, .inl kQ)), (oli, .inl (cI, 1320, .inl li))]) (wf := [(oM, .inr (5, [.int mth, .int mpl, .ref obd, .int msd, .int mrt, .int mps, .int mqt, .int mmd, .ref opa, .ref opS, .ref opR, .ref opG, .ref opP, .ref opQ, .ref okp, .ref okS, .ref okR, .ref okP, .ref okQ, .ref oli])), (obd, .inl (cI, 64, .inl bd)), (opa, .inl (cI, 9664, .inl pa)), (opS, .inl (cI, 151, .inl pS)), (opR, .inl (cI, 151, .inl pR)), (opG, .inl (cI, 151, .inl pG)), (opP, .inl (cI, 151, .inl pP)), (opQ, .inl (cI, 151, .inl pQ)), (okp, .inl (cI, 256, .inl kp)), (okS, .inl (cI, 4, .inl kS)), (okR, .inl (cI, 4, .inl kR)), (okP, .inl (cI, 4, .inl kP)), (okQ, .inl (cI, 4, .inl kQ)), (oli, .inl (cI, 1320, .inl li))]) ⟨hx, hb, hml, hown, hts⟩ (ct_M_isOf l dC dI cI cL cR (bd a2.toNatClampNeg) msd hy4) mm_241 mm_242 mm_240 mm_211 hd_M_isOf (by decide) qq_00 hP hD hK hS hA hT hN [] [0, 1, 2, 3, 4, 5, 6, 7, 8, 9, 10, 11, 12, 13] [0, 1, 2, 3, 4, 5, 6, 7, 8, 9, 10, 11, 12, 13] rfl rfl rfl (by decide) rfl hl.1 rfl (Nat.le_of_ble_eq_true rfl) dd_M_goes_26 (fun H locs hP hD hS => ?_)
    refine W.eq (g2 := F0 m 29 ls [.int r4]) rfl ?_
    refine lv_if_eq (tgt := 34) hx hb dd_M_goes_29 (by decide) (fun hc => ?_) (fun hc => ?_)
    · replace hf := qq_t hc hf
      refine lv_aload_n hx hb dd_M_goes_34 rfl (lv_at hl 0 rfl) ?_
      refine va_get (D := (dC, dI)) (ci := 5) (v := .ref obd) (C := RR_M) (T := FF_M) (N := 20) hx hb hts uu_M hown hK hP 0 rfl rfl 2 (by decide) (hts _ mm_209) (fun _ h9 => h9) rfl dd_M_goes_35 ?_
      refine lv_iload_n hx hb dd_M_goes_38 rfl (lv_at hl 1 rfl) ?_
      obtain ⟨hi5, hf⟩ := qq_ckE hf
      refine va_iald (D := (dC, dI)) (f := bd) (n := 64) (cA := cI) hx hb hK hP 1 0 rfl rfl (qq_inE hi5) dd_M_goes_39 ?_
      obtain ⟨r6, hy6, hf⟩ := qq_bd hf
      refine qq_S (As := [.int (bd a1.toNatClampNeg)]) (rest := []) (wr := [(oM, .inr (5, [.int mth, .int mpl, .ref obd, .int msd, .int mrt, .int mps, .int mqt, .int mmd, .ref opa, .ref opS, .ref opR, .ref opG, .ref opP, .ref opQ, .ref okp, .ref okS, .ref okR, .ref okP, .ref okQ, .ref oli])), (obd, .inl (cI, 64, .inl bd)), (opa, .inl (cI, 9664, .inl pa)), (opS, .inl (cI, 151, .inl pS)), (opR, .inl (cI, 151, .inl pR)), (opG, .inl (cI, 151, .inl pG)), (opP, .inl (cI, 151, .inl pP)), (opQ, .inl (cI, 151, .inl pQ)), (okp, .inl (cI, 256, .inl kp)), (okS, .inl (cI, 4, .inl kS)), (okR, .inl (cI, 4, .inl kR)), (okP, .inl (cI, 4, .inl kP)), (okQ, .inl (cI, 4, .inl kQ)), (oli, .inl (cI, 1320, .inl li))]) (wf := [(oM, .inr (5, [.int mth, .int mpl, .ref obd, .int msd, .int mrt, .int mps, .int mqt, .int mmd, .ref opa, .ref opS, .ref opR, .ref opG, .ref opP, .ref opQ, .ref okp, .ref okS, .ref okR, .ref okP, .ref okQ, .ref oli])), (obd, .inl (cI, 64, .inl bd)), (opa, .inl (cI, 9664, .inl pa)), (opS, .inl (cI, 151, .inl pS)), (opR, .inl (cI, 151, .inl pR)), (opG, .inl (cI, 151, .inl pG)), (opP, .inl (cI, 151, .inl pP)), (opQ, .inl (cI, 151, .inl pQ)), (okp, .inl (cI, 256, .inl kp)), (okS, .inl (cI, 4, .inl kS)), (okR, .inl (cI, 4, .inl kR)), (okP, .inl (cI, 4, .inl kP)), (okQ, .inl (cI, 4, .inl kQ)), (oli, .inl (cI, 1320, .inl li))]) ⟨hx, hb, hml, hown, hts⟩ (ct_M_kindOf l dC dI cI cL cR (bd a1.toNatClampNeg) hy6) mm_222 mm_223 mm_221 mm_211 hd_M_kindOf (by decide) qq_00 hP hD hK hS hA hT hN [] [0, 1, 2, 3, 4, 5, 6, 7, 8, 9, 10, 11, 12, 13] [0, 1, 2, 3, 4, 5, 6, 7, 8, 9, 10, 11, 12, 13] rfl rfl rfl (by decide) rfl hl.1 rfl (Nat.le_of_ble_eq_true rfl) dd_M_goes_40 (fun H locs hP hD hS => ?_)
      refine W.eq (g2 := F0 m 43 ls [.int r6]) rfl ?_
      refine lv_istore (lv' := [(4, .int r6), (0, .ref oM), (1, .int a1), (2, .int a2), (3, .int a3)]) hx hb dd_M_goes_43 hl (by decide) rfl (fun ls hl => ?_)
      refine lv_iload hx hb dd_M_goes_45 (lv_at hl 0 rfl) ?_
      refine lv_iconst (v := 1) hx hb dd_M_goes_47 (by decide) ?_
      refine lv_icmp_ne (tgt := 59) hx hb dd_M_goes_48 (by decide) (fun hc => ?_) (fun hc => ?_)
      · replace hf := qq_f hc hf
        refine lv_iload_n hx hb dd_M_goes_59 rfl (lv_at hl 4 rfl) ?_
        refine lv_if_ne (tgt := 92) hx hb dd_M_goes_60 (by decide) (fun hc => ?_) (fun hc => ?_)
        · replace hf := qq_f hc hf
          exact hJ92  _ _ _ (lv_sub hl [] rfl) hP hD hS hf
        · replace hf := qq_t hc hf
          refine lv_aload_n hx hb dd_M_goes_63 rfl (lv_at hl 1 rfl) ?_
          refine lv_iload_n hx hb dd_M_goes_64 rfl (lv_at hl 2 rfl) ?_
          refine lv_iload_n hx hb dd_M_goes_65 rfl (lv_at hl 3 rfl) ?_
          obtain ⟨r7, hy7, hf⟩ := qq_bd hf
          refine qq_V (As := [.int a1, .int a2]) (rest := []) (wr := []) (wf := [(oM, .inr (5, [.int mth, .int mpl, .ref obd, .int msd, .int mrt, .int mps, .int mqt, .int mmd, .ref opa, .ref opS, .ref opR, .ref opG, .ref opP, .ref opQ, .ref okp, .ref okS, .ref okR, .ref okP, .ref okQ, .ref oli])), (obd, .inl (cI, 64, .inl bd)), (opa, .inl (cI, 9664, .inl pa)), (opS, .inl (cI, 151, .inl pS)), (opR, .inl (cI, 151, .inl pR)), (opG, .inl (cI, 151, .inl pG)), (opP, .inl (cI, 151, .inl pP)), (opQ, .inl (cI, 151, .inl pQ)), (okp, .inl (cI, 256, .inl kp)), (okS, .inl (cI, 4, .inl kS)), (okR, .inl (cI, 4, .inl kR)), (okP, .inl (cI, 4, .inl kP)), (okQ, .inl (cI, 4, .inl kQ)), (oli, .inl (cI, 1320, .inl li))]) ⟨hx, hb, hml, hown, hts⟩ (ct_M_reaches l dC dI cI cL cR oM obd opa opS opR opG opP opQ okp okS okR okP okQ oli mth mpl msd mrt mps mqt mmd bd pa pS pR pG pP pQ kp kS kR kP kQ li a1 a2 hy7) mm_230 mm_231 mm_232 mm_229 mm_211 hd_M_reaches (by decide) qq_00 hP hD hK hS hA hT hN (q0 := 0) (ci := 5) rfl rfl [0, 1, 2, 3, 4, 5, 6, 7, 8, 9, 10, 11, 12, 13] [] [0, 1, 2, 3, 4, 5, 6, 7, 8, 9, 10, 11, 12, 13] rfl rfl rfl (by decide) rfl hl.1 rfl (Nat.le_of_ble_eq_true rfl) dd_M_goes_66 (fun H locs hP hD hS => ?_)
          refine W.eq (g2 := F0 m 69 ls [.int r7]) rfl ?_
          refine lv_if_ne (tgt := 88) hx hb dd_M_goes_69 (by decide) (fun hc => ?_) (fun hc => ?_)
          · replace hf := qq_f hc hf
            exact hJ88  _ _ _ (lv_sub hl [] rfl) hP hD hS hf
          · replace hf := qq_t hc hf
            refine lv_iload hx hb dd_M_goes_72 (lv_at hl 0 rfl) ?_
            refine lv_bipush (v := 6) hx hb dd_M_goes_74 (by decide) ?_
            refine lv_icmp_ne (tgt := 92) hx hb dd_M_goes_76 (by decide) (fun hc => ?_) (fun hc => ?_)
            · replace hf := qq_f hc hf
              exact hJ92  _ _ _ (lv_sub hl [] rfl) hP hD hS hf
            · replace hf := qq_t hc hf
              refine lv_aload_n hx hb dd_M_goes_79 rfl (lv_at hl 1 rfl) ?_
              refine lv_iload_n hx hb dd_M_goes_80 rfl (lv_at hl 2 rfl) ?_
              refine lv_iload_n hx hb dd_M_goes_81 rfl (lv_at hl 3 rfl) ?_
              obtain ⟨r8, hy8, hf⟩ := qq_bd hf
              refine qq_V (As := [.int a1, .int a2]) (rest := []) (wr := []) (wf := [(oM, .inr (5, [.int mth, .int mpl, .ref obd, .int msd, .int mrt, .int mps, .int mqt, .int mmd, .ref opa, .ref opS, .ref opR, .ref opG, .ref opP, .ref opQ, .ref okp, .ref okS, .ref okR, .ref okP, .ref okQ, .ref oli])), (obd, .inl (cI, 64, .inl bd)), (opa, .inl (cI, 9664, .inl pa)), (opS, .inl (cI, 151, .inl pS)), (opR, .inl (cI, 151, .inl pR)), (opG, .inl (cI, 151, .inl pG)), (opP, .inl (cI, 151, .inl pP)), (opQ, .inl (cI, 151, .inl pQ)), (okp, .inl (cI, 256, .inl kp)), (okS, .inl (cI, 4, .inl kS)), (okR, .inl (cI, 4, .inl kR)), (okP, .inl (cI, 4, .inl kP)), (okQ, .inl (cI, 4, .inl kQ)), (oli, .inl (cI, 1320, .inl li))]) ⟨hx, hb, hml, hown, hts⟩ (ct_M_castles l dC dI cI cL cR oM obd opa opS opR opG opP opQ okp okS okR okP okQ oli mth mpl msd mrt mps mqt mmd bd pa pS pR pG pP pQ kp kS kR kP kQ li a1 a2 hy8) mm_257 mm_258 mm_259 mm_256 mm_211 hd_M_castles (by decide) qq_00 hP hD hK hS hA hT hN (q0 := 0) (ci := 5) rfl rfl [0, 1, 2, 3, 4, 5, 6, 7, 8, 9, 10, 11, 12, 13] [] [0, 1, 2, 3, 4, 5, 6, 7, 8, 9, 10, 11, 12, 13] rfl rfl rfl (by decide) rfl hl.1 rfl (Nat.le_of_ble_eq_true rfl) dd_M_goes_82 (fun H locs hP hD hS => ?_)
              refine W.eq (g2 := F0 m 85 ls [.int r8]) rfl ?_
              refine lv_if_eq (tgt := 92) hx hb dd_M_goes_85 (by decide) (fun hc => ?_) (fun hc => ?_)
              · replace hf := qq_t hc hf
                exact hJ92  _ _ _ (lv_sub hl [] rfl) hP hD hS hf
              · replace hf := qq_f hc hf
                exact hJ88  _ _ _ (lv_sub hl [] rfl) hP hD hS hf
      · replace hf := qq_t hc hf
        refine lv_aload_n hx hb dd_M_goes_51 rfl (lv_at hl 1 rfl) ?_
        refine lv_iload_n hx hb dd_M_goes_52 rfl (lv_at hl 2 rfl) ?_
        refine lv_iload_n hx hb dd_M_goes_53 rfl (lv_at hl 3 rfl) ?_
        refine lv_iload_n hx hb dd_M_goes_54 rfl (lv_at hl 4 rfl) ?_
        obtain ⟨r9, hy9, hf⟩ := qq_bd hf
        refine qq_V (As := [.int a1, .int a2, .int a3]) (rest := []) (wr := []) (wf := [(oM, .inr (5, [.int mth, .int mpl, .ref obd, .int msd, .int mrt, .int mps, .int mqt, .int mmd, .ref opa, .ref opS, .ref opR, .ref opG, .ref opP, .ref opQ, .ref okp, .ref okS, .ref okR, .ref okP, .ref okQ, .ref oli])), (obd, .inl (cI, 64, .inl bd)), (opa, .inl (cI, 9664, .inl pa)), (opS, .inl (cI, 151, .inl pS)), (opR, .inl (cI, 151, .inl pR)), (opG, .inl (cI, 151, .inl pG)), (opP, .inl (cI, 151, .inl pP)), (opQ, .inl (cI, 151, .inl pQ)), (okp, .inl (cI, 256, .inl kp)), (okS, .inl (cI, 4, .inl kS)), (okR, .inl (cI, 4, .inl kR)), (okP, .inl (cI, 4, .inl kP)), (okQ, .inl (cI, 4, .inl kQ)), (oli, .inl (cI, 1320, .inl li))]) ⟨hx, hb, hml, hown, hts⟩ (ct_M_pawnGoes l dC dI cI cL cR oM obd opa opS opR opG opP opQ okp okS okR okP okQ oli mth mpl msd mrt mps mqt mmd bd pa pS pR pG pP pQ kp kS kR kP kQ li a1 a2 a3 hy9) mm_261 mm_262 mm_263 mm_260 mm_211 hd_M_pawnGoes (by decide) qq_00 hP hD hK hS hA hT hN (q0 := 0) (ci := 5) rfl rfl [0, 1, 2, 3, 4, 5, 6, 7, 8, 9, 10, 11, 12, 13] [] [0, 1, 2, 3, 4, 5, 6, 7, 8, 9, 10, 11, 12, 13] rfl rfl rfl (by decide) rfl hl.1 rfl (Nat.le_of_ble_eq_true rfl) dd_M_goes_55 (fun H locs hP hD hS => ?_)
        refine W.eq (g2 := F0 m 58 ls [.int r9]) rfl ?_
        obtain ⟨hzb, hf⟩ := qq_ckE hf
        cases hf
        exact qq_zret hx hb hr (qq_bE hzb) hlocks hQ hP hD hK hS dd_M_goes_58
    · replace hf := qq_f hc hf
      exact hJ32  _ _ _ (lv_sub hl [] rfl) hP hD hS hf
theorem dd_M_keep_0 : decode bb_M_keep 0 = .ok (.iconst 0, 1) := by decide +kernel
theorem dd_M_keep_1 : decode bb_M_keep 1 = .ok (.istore_n 2, 1) := by decide +kernel
theorem dd_M_keep_2 : decode bb_M_keep 2 = .ok (.iload_n 2, 1) := by decide +kernel
theorem dd_M_keep_3 : decode bb_M_keep 3 = .ok (.bipush 64, 2) := by decide +kernel
theorem dd_M_keep_5 : decode bb_M_keep 5 = .ok (.if_icmp .ge 26, 3) := by decide +kernel
theorem dd_M_keep_8 : decode bb_M_keep 8 = .ok (.aload_n 0, 1) := by decide +kernel
theorem dd_M_keep_9 : decode bb_M_keep 9 = .ok (.getfield 35, 3) := by decide +kernel
theorem dd_M_keep_12 : decode bb_M_keep 12 = .ok (.bipush 64, 2) := by decide +kernel
theorem dd_M_keep_14 : decode bb_M_keep 14 = .ok (.iload_n 1, 1) := by decide +kernel
theorem dd_M_keep_15 : decode bb_M_keep 15 = .ok (.imul, 1) := by decide +kernel
theorem dd_M_keep_16 : decode bb_M_keep 16 = .ok (.iload_n 2, 1) := by decide +kernel
theorem dd_M_keep_17 : decode bb_M_keep 17 = .ok (.iadd, 1) := by decide +kernel
theorem dd_M_keep_18 : decode bb_M_keep 18 = .ok (.aload_n 0, 1) := by decide +kernel
theorem dd_M_keep_19 : decode bb_M_keep 19 = .ok (.getfield 7, 3) := by decide +kernel
theorem dd_M_keep_22 : decode bb_M_keep 22 = .ok (.iload_n 2, 1) := by decide +kernel
theorem dd_M_keep_23 : decode bb_M_keep 23 = .ok (.iaload, 1) := by decide +kernel
theorem dd_M_keep_24 : decode bb_M_keep 24 = .ok (.iastore, 1) := by decide +kernel
theorem dd_M_keep_25 : decode bb_M_keep 25 = .ok (.iinc 2 1, 3) := by decide +kernel
theorem dd_M_keep_28 : decode bb_M_keep 28 = .ok (.goto (-26), 3) := by decide +kernel
theorem dd_M_keep_31 : decode bb_M_keep 31 = .ok (.aload_n 0, 1) := by decide +kernel
theorem dd_M_keep_32 : decode bb_M_keep 32 = .ok (.getfield 38, 3) := by decide +kernel
theorem dd_M_keep_35 : decode bb_M_keep 35 = .ok (.iload_n 1, 1) := by decide +kernel
theorem dd_M_keep_36 : decode bb_M_keep 36 = .ok (.aload_n 0, 1) := by decide +kernel
theorem dd_M_keep_37 : decode bb_M_keep 37 = .ok (.getfield 95, 3) := by decide +kernel
theorem dd_M_keep_40 : decode bb_M_keep 40 = .ok (.iastore, 1) := by decide +kernel
theorem dd_M_keep_41 : decode bb_M_keep 41 = .ok (.aload_n 0, 1) := by decide +kernel
theorem dd_M_keep_42 : decode bb_M_keep 42 = .ok (.getfield 41, 3) := by decide +kernel
theorem dd_M_keep_45 : decode bb_M_keep 45 = .ok (.iload_n 1, 1) := by decide +kernel
theorem dd_M_keep_46 : decode bb_M_keep 46 = .ok (.aload_n 0, 1) := by decide +kernel
theorem dd_M_keep_47 : decode bb_M_keep 47 = .ok (.getfield 53, 3) := by decide +kernel
theorem dd_M_keep_50 : decode bb_M_keep 50 = .ok (.iastore, 1) := by decide +kernel
theorem dd_M_keep_51 : decode bb_M_keep 51 = .ok (.aload_n 0, 1) := by decide +kernel
theorem dd_M_keep_52 : decode bb_M_keep 52 = .ok (.getfield 44, 3) := by decide +kernel
theorem dd_M_keep_55 : decode bb_M_keep 55 = .ok (.iload_n 1, 1) := by decide +kernel
theorem dd_M_keep_56 : decode bb_M_keep 56 = .ok (.aload_n 0, 1) := by decide +kernel
theorem dd_M_keep_57 : decode bb_M_keep 57 = .ok (.getfield 13, 3) := by decide +kernel
theorem dd_M_keep_60 : decode bb_M_keep 60 = .ok (.iastore, 1) := by decide +kernel
theorem dd_M_keep_61 : decode bb_M_keep 61 = .ok (.aload_n 0, 1) := by decide +kernel
theorem dd_M_keep_62 : decode bb_M_keep 62 = .ok (.getfield 47, 3) := by decide +kernel
theorem dd_M_keep_65 : decode bb_M_keep 65 = .ok (.iload_n 1, 1) := by decide +kernel
theorem dd_M_keep_66 : decode bb_M_keep 66 = .ok (.aload_n 0, 1) := by decide +kernel
theorem dd_M_keep_67 : decode bb_M_keep 67 = .ok (.getfield 115, 3) := by decide +kernel
theorem dd_M_keep_70 : decode bb_M_keep 70 = .ok (.iastore, 1) := by decide +kernel
theorem dd_M_keep_71 : decode bb_M_keep 71 = .ok (.return_, 1) := by decide +kernel
abbrev ty_M_keep : Type := (Nat → Int32) × (Nat → Int32) × (Nat → Int32) × (Nat → Int32) × (Nat → Int32)
noncomputable def lo_M_keep_2 (msd : Int32) (mrt : Int32) (mps : Int32) (mqt : Int32) (bd : Nat → Int32) (a1 : Int32) : Nat → (Nat → Int32) → (Nat → Int32) → (Nat → Int32) → (Nat → Int32) → (Nat → Int32) → Int32 → Option ty_M_keep
  | 0, _, _, _, _, _, _ => none
  | n + 1, kp, kS, kR, kP, kQ, x2 => if 64 ≤ x2 then (qq_ck (qq_in a1 4) <| qq_let (upd kS a1.toNatClampNeg msd) fun kS_1002 => qq_ck (qq_in a1 4) <| qq_let (upd kR a1.toNatClampNeg mrt) fun kR_1004 => qq_ck (qq_in a1 4) <| qq_let (upd kP a1.toNatClampNeg mps) fun kP_1006 => qq_ck (qq_in a1 4) <| qq_let (upd kQ a1.toNatClampNeg mqt) fun kQ_1008 => some (kp, kS_1002, kR_1004, kP_1006, kQ_1008)) else (qq_ck (qq_in x2 64) <| qq_ck (qq_in ((64 * a1) + x2) 256) <| qq_let (upd kp ((64 * a1) + x2).toNatClampNeg (bd x2.toNatClampNeg)) fun kp_1011 => qq_let (x2 + 1) fun v1012 => (lo_M_keep_2 msd mrt mps mqt bd a1 n) kp_1011 kS kR kP kQ v1012)
theorem lo_M_keep_2_z (msd : Int32) (mrt : Int32) (mps : Int32) (mqt : Int32) (bd : Nat → Int32) (a1 : Int32) (kp : Nat → Int32) (kS : Nat → Int32) (kR : Nat → Int32) (kP : Nat → Int32) (kQ : Nat → Int32) (x2 : Int32) : lo_M_keep_2 msd mrt mps mqt bd a1 0 kp kS kR kP kQ x2 = none := rfl
theorem lo_M_keep_2_s (msd : Int32) (mrt : Int32) (mps : Int32) (mqt : Int32) (bd : Nat → Int32) (a1 : Int32) (kp : Nat → Int32) (kS : Nat → Int32) (kR : Nat → Int32) (kP : Nat → Int32) (kQ : Nat → Int32) (x2 : Int32) (n : Nat) : lo_M_keep_2 msd mrt mps mqt bd a1 (n + 1) kp kS kR kP kQ x2 = (if 64 ≤ x2 then (qq_ck (qq_in a1 4) <| qq_let (upd kS a1.toNatClampNeg msd) fun kS_1002 => qq_ck (qq_in a1 4) <| qq_let (upd kR a1.toNatClampNeg mrt) fun kR_1004 => qq_ck (qq_in a1 4) <| qq_let (upd kP a1.toNatClampNeg mps) fun kP_1006 => qq_ck (qq_in a1 4) <| qq_let (upd kQ a1.toNatClampNeg mqt) fun kQ_1008 => some (kp, kS_1002, kR_1004, kP_1006, kQ_1008)) else (qq_ck (qq_in x2 64) <| qq_ck (qq_in ((64 * a1) + x2) 256) <| qq_let (upd kp ((64 * a1) + x2).toNatClampNeg (bd x2.toNatClampNeg)) fun kp_1011 => qq_let (x2 + 1) fun v1012 => (lo_M_keep_2 msd mrt mps mqt bd a1 n) kp_1011 kS kR kP kQ v1012)) := rfl
noncomputable def fn_M_keep (msd : Int32) (mrt : Int32) (mps : Int32) (mqt : Int32) (bd : Nat → Int32) (kp : Nat → Int32) (kS : Nat → Int32) (kR : Nat → Int32) (kP : Nat → Int32) (kQ : Nat → Int32) (a1 : Int32) : Option ty_M_keep := lo_M_keep_2 msd mrt mps mqt bd a1 qq_FU kp kS kR kP kQ 0
abbrev rm_M_keep : Room := { frames := 0, cells := 0, slots := 0, locals := 0 }
set_option maxHeartbeats 4000000 in
set_option maxRecDepth 100000 in
theorem ct_M_keep (l : Launch) (dC : Nat → ClassId) (dI : Nat → Nat → Nat) (cI cL cR : ClassId) (oM obd opa opS opR opG opP opQ okp okS okR okP okQ oli : Nat) (mth : Int32) (mpl : Int32) (msd : Int32) (mrt : Int32) (mps : Int32) (mqt : Int32) (mmd : Int32) (bd : Nat → Int32) (pa : Nat → Int32) (pS : Nat → Int32) (pR : Nat → Int32) (pG : Nat → Int32) (pP : Nat → Int32) (pQ : Nat → Int32) (kp : Nat → Int32) (kS : Nat → Int32) (kR : Nat → Int32) (kP : Nat → Int32) (kQ : Nat → Int32) (li : Nat → Int32) (a1 : Int32) {kp' : Nat → Int32} {kS' : Nat → Int32} {kR' : Nat → Int32} {kP' : Nat → Int32} {kQ' : Nat → Int32} (hf : fn_M_keep msd mrt mps mqt bd kp kS kR kP kQ a1 = some (kp', kS', kR', kP', kQ')) : qq_det l yy_M_keep (ww_of yy_M_keep bb_M_keep 3 none) rm_M_keep (dC, dI) (qq_ty cI cL cR) [.ref oM, .int a1] [(oM, .inr (5, [.int mth, .int mpl, .ref obd, .int msd, .int mrt, .int mps, .int mqt, .int mmd, .ref opa, .ref opS, .ref opR, .ref opG, .ref opP, .ref opQ, .ref okp, .ref okS, .ref okR, .ref okP, .ref okQ, .ref oli])), (obd, .inl (cI, 64, .inl bd)), (opa, .inl (cI, 9664, .inl pa)), (opS, .inl (cI, 151, .inl pS)), (opR, .inl (cI, 151, .inl pR)), (opG, .inl (cI, 151, .inl pG)), (opP, .inl (cI, 151, .inl pP)), (opQ, .inl (cI, 151, .inl pQ)), (okp, .inl (cI, 256, .inl kp)), (okS, .inl (cI, 4, .inl kS)), (okR, .inl (cI, 4, .inl kR)), (okP, .inl (cI, 4, .inl kP)), (okQ, .inl (cI, 4, .inl kQ)), (oli, .inl (cI, 1320, .inl li))] none [(oM, .inr (5, [.int mth, .int mpl, .ref obd, .int msd, .int mrt, .int mps, .int mqt, .int mmd, .ref opa, .ref opS, .ref opR, .ref opG, .ref opP, .ref opQ, .ref okp, .ref okS, .ref okR, .ref okP, .ref okQ, .ref oli])), (obd, .inl (cI, 64, .inl bd)), (opa, .inl (cI, 9664, .inl pa)), (opS, .inl (cI, 151, .inl pS)), (opR, .inl (cI, 151, .inl pR)), (opG, .inl (cI, 151, .inl pG)), (opP, .inl (cI, 151, .inl pP)), (opQ, .inl (cI, 151, .inl pQ)), (okp, .inl (cI, 256, .inl kp')), (okS, .inl (cI, 4, .inl kS')), (okR, .inl (cI, 4, .inl kR')), (okP, .inl (cI, 4, .inl kP')), (okQ, .inl (cI, 4, .inl kQ')), (oli, .inl (cI, 1320, .inl li))] := by
  refine qq_of (own := RR_M) (by decide) rfl (Nat.le_of_ble_eq_true rfl) ?_
  intro p e s m below meth c A Q ls hx hb hml hr hlocks hown hts hK hA hT hN hP hD hS hl hQ
  have hl : lv_has ls 3 [(0, .ref oM), (1, .int a1)] := hl
  have hL2 : ∀ (n2 : Nat) (kp : Nat → Int32) (kS : Nat → Int32) (kR : Nat → Int32) (kP : Nat → Int32) (kQ : Nat → Int32) (x2 : Int32) (H : Heap) (locs : List Loc) (ls : Array Slot), lv_has ls 3 [(0, .ref oM), (1, .int a1), (2, .int x2)] → va_P (dC, dI) classes [(oM, .inr (5, [.int mth, .int mpl, .ref obd, .int msd, .int mrt, .int mps, .int mqt, .int mmd, .ref opa, .ref opS, .ref opR, .ref opG, .ref opP, .ref opQ, .ref okp, .ref okS, .ref okR, .ref okP, .ref okQ, .ref oli])), (obd, .inl (cI, 64, .inl bd)), (opa, .inl (cI, 9664, .inl pa)), (opS, .inl (cI, 151, .inl pS)), (opR, .inl (cI, 151, .inl pR)), (opG, .inl (cI, 151, .inl pG)), (opP, .inl (cI, 151, .inl pP)), (opQ, .inl (cI, 151, .inl pQ)), (okp, .inl (cI, 256, .inl kp)), (okS, .inl (cI, 4, .inl kS)), (okR, .inl (cI, 4, .inl kR)), (okP, .inl (cI, 4, .inl kP)), (okQ, .inl (cI, 4, .inl kQ)), (oli, .inl (cI, 1320, .inl li))] H → va_D A [(oM, .inr (5, [.int mth, .int mpl, .ref obd, .int msd, .int mrt, .int mps, .int mqt, .int mmd, .ref opa, .ref opS, .ref opR, .ref opG, .ref opP, .ref opQ, .ref okp, .ref okS, .ref okR, .ref okP, .ref okQ, .ref oli])), (obd, .inl (cI, 64, .inl bd)), (opa, .inl (cI, 9664, .inl pa)), (opS, .inl (cI, 151, .inl pS)), (opR, .inl (cI, 151, .inl pR)), (opG, .inl (cI, 151, .inl pG)), (opP, .inl (cI, 151, .inl pP)), (opQ, .inl (cI, 151, .inl pQ)), (okp, .inl (cI, 256, .inl kp)), (okS, .inl (cI, 4, .inl kS)), (okR, .inl (cI, 4, .inl kR)), (okP, .inl (cI, 4, .inl kP)), (okQ, .inl (cI, 4, .inl kQ)), (oli, .inl (cI, 1320, .inl li))] → va_S A s.heap H locs → lo_M_keep_2 msd mrt mps mqt bd a1 n2 kp kS kR kP kQ x2 = some (kp', kS', kR', kP', kQ') → W p l e rm_M_keep s m ([.ref oM, .int a1] : List Value).toArray below meth c H locs 0 0 Q (F0 m 2 ls []) := by
    intro n2
    induction n2 with
    | zero => exact fun kp kS kR kP kQ x2 H locs ls hl hP hD hS hf => absurd hf (by rw [lo_M_keep_2_z]; exact fun h => by cases h)
    | succ n2 ih2 =>
      intro kp kS kR kP kQ x2 H locs ls hl hP hD hS hf
      rw [lo_M_keep_2_s] at hf
      refine lv_iload_n hx hb dd_M_keep_2 rfl (lv_at hl 2 rfl) ?_
      refine lv_bipush (v := 64) hx hb dd_M_keep_3 (by decide) ?_
      refine lv_icmp_ge (tgt := 31) hx hb dd_M_keep_5 (by decide) (fun hc => ?_) (fun hc => ?_)
      · replace hf := qq_t hc hf
        refine lv_aload_n hx hb dd_M_keep_31 rfl (lv_at hl 0 rfl) ?_
        refine va_get (D := (dC, dI)) (ci := 5) (v := .ref okS) (C := RR_M) (T := FF_M) (N := 20) hx hb hts uu_M hown hK hP 0 rfl rfl 15 (by decide) (hts _ mm_264) (fun _ h9 => h9) rfl dd_M_keep_32 ?_
        refine lv_iload_n hx hb dd_M_keep_35 rfl (lv_at hl 1 rfl) ?_
        refine lv_aload_n hx hb dd_M_keep_36 rfl (lv_at hl 0 rfl) ?_
        refine va_get (D := (dC, dI)) (ci := 5) (v := .int msd) (C := RR_M) (T := FF_M) (N := 20) hx hb hts uu_M hown hK hP 0 rfl rfl 3 (by decide) (hts _ mm_228) (fun _ h9 => h9) rfl dd_M_keep_37 ?_
        obtain ⟨hi1001, hf⟩ := qq_ckE hf
        refine va_iast (D := (dC, dI)) (f := kS) (n := 4) (cA := cI) hx hb hK hP hD hS 9 0 rfl rfl (qq_inE hi1001) dd_M_keep_40 (fun H locs hP hD hS => ?_)
        obtain ⟨kS_1002, ekS_1002⟩ : ∃ z, z = upd kS a1.toNatClampNeg msd := ⟨_, rfl⟩
        replace hf := qq_lt ekS_1002 hf
        have hP : va_P (dC, dI) classes [(oM, .inr (5, [.int mth, .int mpl, .ref obd, .int msd, .int mrt, .int mps, .int mqt, .int mmd, .ref opa, .ref opS, .ref opR, .ref opG, .ref opP, .ref opQ, .ref okp, .ref okS, .ref okR, .ref okP, .ref okQ, .ref oli])), (obd, .inl (cI, 64, .inl bd)), (opa, .inl (cI, 9664, .inl pa)), (opS, .inl (cI, 151, .inl pS)), (opR, .inl (cI, 151, .inl pR)), (opG, .inl (cI, 151, .inl pG)), (opP, .inl (cI, 151, .inl pP)), (opQ, .inl (cI, 151, .inl pQ)), (okp, .inl (cI, 256, .inl kp)), (okS, .inl (cI, 4, .inl kS_1002)), (okR, .inl (cI, 4, .inl kR)), (okP, .inl (cI, 4, .inl kP)), (okQ, .inl (cI, 4, .inl kQ)), (oli, .inl (cI, 1320, .inl li))] H := by rw [ekS_1002]; exact hP
        have hD : va_D A [(oM, .inr (5, [.int mth, .int mpl, .ref obd, .int msd, .int mrt, .int mps, .int mqt, .int mmd, .ref opa, .ref opS, .ref opR, .ref opG, .ref opP, .ref opQ, .ref okp, .ref okS, .ref okR, .ref okP, .ref okQ, .ref oli])), (obd, .inl (cI, 64, .inl bd)), (opa, .inl (cI, 9664, .inl pa)), (opS, .inl (cI, 151, .inl pS)), (opR, .inl (cI, 151, .inl pR)), (opG, .inl (cI, 151, .inl pG)), (opP, .inl (cI, 151, .inl pP)), (opQ, .inl (cI, 151, .inl pQ)), (okp, .inl (cI, 256, .inl kp)), (okS, .inl (cI, 4, .inl kS_1002)), (okR, .inl (cI, 4, .inl kR)), (okP, .inl (cI, 4, .inl kP)), (okQ, .inl (cI, 4, .inl kQ)), (oli, .inl (cI, 1320, .inl li))] := by rw [ekS_1002]; exact hD
        refine lv_aload_n hx hb dd_M_keep_41 rfl (lv_at hl 0 rfl) ?_
        refine va_get (D := (dC, dI)) (ci := 5) (v := .ref okR) (C := RR_M) (T := FF_M) (N := 20) hx hb hts uu_M hown hK hP 0 rfl rfl 16 (by decide) (hts _ mm_265) (fun _ h9 => h9) rfl dd_M_keep_42 ?_
        refine lv_iload_n hx hb dd_M_keep_45 rfl (lv_at hl 1 rfl) ?_
        refine lv_aload_n hx hb dd_M_keep_46 rfl (lv_at hl 0 rfl) ?_
        refine va_get (D := (dC, dI)) (ci := 5) (v := .int mrt) (C := RR_M) (T := FF_M) (N := 20) hx hb hts uu_M hown hK hP 0 rfl rfl 4 (by decide) (hts _ mm_255) (fun _ h9 => h9) rfl dd_M_keep_47 ?_
        obtain ⟨hi1003, hf⟩ := qq_ckE hf
        refine va_iast (D := (dC, dI)) (f := kR) (n := 4) (cA := cI) hx hb hK hP hD hS 10 0 rfl rfl (qq_inE hi1003) dd_M_keep_50 (fun H locs hP hD hS => ?_)
        obtain ⟨kR_1004, ekR_1004⟩ : ∃ z, z = upd kR a1.toNatClampNeg mrt := ⟨_, rfl⟩
        replace hf := qq_lt ekR_1004 hf
        have hP : va_P (dC, dI) classes [(oM, .inr (5, [.int mth, .int mpl, .ref obd, .int msd, .int mrt, .int mps, .int mqt, .int mmd, .ref opa, .ref opS, .ref opR, .ref opG, .ref opP, .ref opQ, .ref okp, .ref okS, .ref okR, .ref okP, .ref okQ, .ref oli])), (obd, .inl (cI, 64, .inl bd)), (opa, .inl (cI, 9664, .inl pa)), (opS, .inl (cI, 151, .inl pS)), (opR, .inl (cI, 151, .inl pR)), (opG, .inl (cI, 151, .inl pG)), (opP, .inl (cI, 151, .inl pP)), (opQ, .inl (cI, 151, .inl pQ)), (okp, .inl (cI, 256, .inl kp)), (okS, .inl (cI, 4, .inl kS_1002)), (okR, .inl (cI, 4, .inl kR_1004)), (okP, .inl (cI, 4, .inl kP)), (okQ, .inl (cI, 4, .inl kQ)), (oli, .inl (cI, 1320, .inl li))] H := by rw [ekR_1004]; exact hP
        have hD : va_D A [(oM, .inr (5, [.int mth, .int mpl, .ref obd, .int msd, .int mrt, .int mps, .int mqt, .int mmd, .ref opa, .ref opS, .ref opR, .ref opG, .ref opP, .ref opQ, .ref okp, .ref okS, .ref okR, .ref okP, .ref okQ, .ref oli])), (obd, .inl (cI, 64, .inl bd)), (opa, .inl (cI, 9664, .inl pa)), (opS, .inl (cI, 151, .inl pS)), (opR, .inl (cI, 151, .inl pR)), (opG, .inl (cI, 151, .inl pG)), (opP, .inl (cI, 151, .inl pP)), (opQ, .inl (cI, 151, .inl pQ)), (okp, .inl (cI, 256, .inl kp)), (okS, .inl (cI, 4, .inl kS_1002)), (okR, .inl (cI, 4, .inl kR_1004)), (okP, .inl (cI, 4, .inl kP)), (okQ, .inl (cI, 4, .inl kQ)), (oli, .inl (cI, 1320, .inl li))] := by rw [ekR_1004]; exact hD
        refine lv_aload_n hx hb dd_M_keep_51 rfl (lv_at hl 0 rfl) ?_
        refine va_get (D := (dC, dI)) (ci := 5) (v := .ref okP) (C := RR_M) (T := FF_M) (N := 20) hx hb hts uu_M hown hK hP 0 rfl rfl 17 (by decide) (hts _ mm_266) (fun _ h9 => h9) rfl dd_M_keep_52 ?_
        refine lv_iload_n hx hb dd_M_keep_55 rfl (lv_at hl 1 rfl) ?_
        refine lv_aload_n hx hb dd_M_keep_56 rfl (lv_at hl 0 rfl) ?_
        refine va_get (D := (dC, dI)) (ci := 5) (v := .int mps) (C := RR_M) (T := FF_M) (N := 20) hx hb hts uu_M hown hK hP 0 rfl rfl 5 (by decide) (hts _ mm_227) (fun _ h9 => h9) rfl dd_M_keep_57 ?_
        obtain ⟨hi1005, hf⟩ := qq_ckE hf
        refine va_iast (D := (dC, dI)) (f := kP) (n := 4) (cA := cI) hx hb hK hP hD hS 11 0 rfl rfl (qq_inE hi1005) dd_M_keep_60 (fun H locs hP hD hS => ?_)
        obtain ⟨kP_1006, ekP_1006⟩ : ∃ z, z = upd kP a1.toNatClampNeg mps := ⟨_, rfl⟩
        replace hf := qq_lt ekP_1006 hf
        have hP : va_P (dC, dI) classes [(oM, .inr (5, [.int mth, .int mpl, .ref obd, .int msd, .int mrt, .int mps, .int mqt, .int mmd, .ref opa, .ref opS, .ref opR, .ref opG, .ref opP, .ref opQ, .ref okp, .ref okS, .ref okR, .ref okP, .ref okQ, .ref oli])), (obd, .inl (cI, 64, .inl bd)), (opa, .inl (cI, 9664, .inl pa)), (opS, .inl (cI, 151, .inl pS)), (opR, .inl (cI, 151, .inl pR)), (opG, .inl (cI, 151, .inl pG)), (opP, .inl (cI, 151, .inl pP)), (opQ, .inl (cI, 151, .inl pQ)), (okp, .inl (cI, 256, .inl kp)), (okS, .inl (cI, 4, .inl kS_1002)), (okR, .inl (cI, 4, .inl kR_1004)), (okP, .inl (cI, 4, .inl kP_1006)), (okQ, .inl (cI, 4, .inl kQ)), (oli, .inl (cI, 1320, .inl li))] H := by rw [ekP_1006]; exact hP
        have hD : va_D A [(oM, .inr (5, [.int mth, .int mpl, .ref obd, .int msd, .int mrt, .int mps, .int mqt, .int mmd, .ref opa, .ref opS, .ref opR, .ref opG, .ref opP, .ref opQ, .ref okp, .ref okS, .ref okR, .ref okP, .ref okQ, .ref oli])), (obd, .inl (cI, 64, .inl bd)), (opa, .inl (cI, 9664, .inl pa)), (opS, .inl (cI, 151, .inl pS)), (opR, .inl (cI, 151, .inl pR)), (opG, .inl (cI, 151, .inl pG)), (opP, .inl (cI, 151, .inl pP)), (opQ, .inl (cI, 151, .inl pQ)), (okp, .inl (cI, 256, .inl kp)), (okS, .inl (cI, 4, .inl kS_1002)), (okR, .inl (cI, 4, .inl kR_1004)), (okP, .inl (cI, 4, .inl kP_1006)), (okQ, .inl (cI, 4, .inl kQ)), (oli, .inl (cI, 1320, .inl li))] := by rw [ekP_1006]; exact hD
        refine lv_aload_n hx hb dd_M_keep_61 rfl (lv_at hl 0 rfl) ?_
        refine va_get (D := (dC, dI)) (ci := 5) (v := .ref okQ) (C := RR_M) (T := FF_M) (N := 20) hx hb hts uu_M hown hK hP 0 rfl rfl 18 (by decide) (hts _ mm_267) (fun _ h9 => h9) rfl dd_M_keep_62 ?_
        refine lv_iload_n hx hb dd_M_keep_65 rfl (lv_at hl 1 rfl) ?_
        refine lv_aload_n hx hb dd_M_keep_66 rfl (lv_at hl 0 rfl) ?_
        refine va_get (D := (dC, dI)) (ci := 5) (v := .int mqt) (C := RR_M) (T := FF_M) (N := 20) hx hb hts uu_M hown hK hP 0 rfl rfl 6 (by decide) (hts _ mm_268) (fun _ h9 => h9) rfl dd_M_keep_67 ?_
        obtain ⟨hi1007, hf⟩ := qq_ckE hf
        refine va_iast (D := (dC, dI)) (f := kQ) (n := 4) (cA := cI) hx hb hK hP hD hS 12 0 rfl rfl (qq_inE hi1007) dd_M_keep_70 (fun H locs hP hD hS => ?_)
        obtain ⟨kQ_1008, ekQ_1008⟩ : ∃ z, z = upd kQ a1.toNatClampNeg mqt := ⟨_, rfl⟩
        replace hf := qq_lt ekQ_1008 hf
        have hP : va_P (dC, dI) classes [(oM, .inr (5, [.int mth, .int mpl, .ref obd, .int msd, .int mrt, .int mps, .int mqt, .int mmd, .ref opa, .ref opS, .ref opR, .ref opG, .ref opP, .ref opQ, .ref okp, .ref okS, .ref okR, .ref okP, .ref okQ, .ref oli])), (obd, .inl (cI, 64, .inl bd)), (opa, .inl (cI, 9664, .inl pa)), (opS, .inl (cI, 151, .inl pS)), (opR, .inl (cI, 151, .inl pR)), (opG, .inl (cI, 151, .inl pG)), (opP, .inl (cI, 151, .inl pP)), (opQ, .inl (cI, 151, .inl pQ)), (okp, .inl (cI, 256, .inl kp)), (okS, .inl (cI, 4, .inl kS_1002)), (okR, .inl (cI, 4, .inl kR_1004)), (okP, .inl (cI, 4, .inl kP_1006)), (okQ, .inl (cI, 4, .inl kQ_1008)), (oli, .inl (cI, 1320, .inl li))] H := by rw [ekQ_1008]; exact hP
        have hD : va_D A [(oM, .inr (5, [.int mth, .int mpl, .ref obd, .int msd, .int mrt, .int mps, .int mqt, .int mmd, .ref opa, .ref opS, .ref opR, .ref opG, .ref opP, .ref opQ, .ref okp, .ref okS, .ref okR, .ref okP, .ref okQ, .ref oli])), (obd, .inl (cI, 64, .inl bd)), (opa, .inl (cI, 9664, .inl pa)), (opS, .inl (cI, 151, .inl pS)), (opR, .inl (cI, 151, .inl pR)), (opG, .inl (cI, 151, .inl pG)), (opP, .inl (cI, 151, .inl pP)), (opQ, .inl (cI, 151, .inl pQ)), (okp, .inl (cI, 256, .inl kp)), (okS, .inl (cI, 4, .inl kS_1002)), (okR, .inl (cI, 4, .inl kR_1004)), (okP, .inl (cI, 4, .inl kP_1006)), (okQ, .inl (cI, 4, .inl kQ_1008)), (oli, .inl (cI, 1320, .inl li))] := by rw [ekQ_1008]; exact hD
        cases hf
        exact qq_vret hx hb hr hlocks hQ hP hD hK hS dd_M_keep_71
      · replace hf := qq_f hc hf
        refine lv_aload_n hx hb dd_M_keep_8 rfl (lv_at hl 0 rfl) ?_
        refine va_get (D := (dC, dI)) (ci := 5) (v := .ref okp) (C := RR_M) (T := FF_M) (N := 20) hx hb hts uu_M hown hK hP 0 rfl rfl 14 (by decide) (hts _ mm_269) (fun _ h9 => h9) rfl dd_M_keep_9 ?_
        refine lv_bipush (v := 64) hx hb dd_M_keep_12 (by decide) ?_
        refine lv_iload_n hx hb dd_M_keep_14 rfl (lv_at hl 1 rfl) ?_
        refine lv_imul hx hb dd_M_keep_15 ?_
        refine lv_iload_n hx hb dd_M_keep_16 rfl (lv_at hl 2 rfl) ?_
        refine lv_iadd hx hb dd_M_keep_17 ?_
        refine lv_aload_n hx hb dd_M_keep_18 rfl (lv_at hl 0 rfl) ?_
        refine va_get (D := (dC, dI)) (ci := 5) (v := .ref obd) (C := RR_M) (T := FF_M) (N := 20) hx hb hts uu_M hown hK hP 0 rfl rfl 2 (by decide) (hts _ mm_209) (fun _ h9 => h9) rfl dd_M_keep_19 ?_
        refine lv_iload_n hx hb dd_M_keep_22 rfl (lv_at hl 2 rfl) ?_
        obtain ⟨hi1009, hf⟩ := qq_ckE hf
        refine va_iald (D := (dC, dI)) (f := bd) (n := 64) (cA := cI) hx hb hK hP 1 0 rfl rfl (qq_inE hi1009) dd_M_keep_23 ?_
        obtain ⟨hi1010, hf⟩ := qq_ckE hf
        refine va_iast (D := (dC, dI)) (f := kp) (n := 256) (cA := cI) hx hb hK hP hD hS 8 0 rfl rfl (qq_inE hi1010) dd_M_keep_24 (fun H locs hP hD hS => ?_)
        obtain ⟨kp_1011, ekp_1011⟩ : ∃ z, z = upd kp ((64 * a1) + x2).toNatClampNeg (bd x2.toNatClampNeg) := ⟨_, rfl⟩
        replace hf := qq_lt ekp_1011 hf
        have hP : va_P (dC, dI) classes [(oM, .inr (5, [.int mth, .int mpl, .ref obd, .int msd, .int mrt, .int mps, .int mqt, .int mmd, .ref opa, .ref opS, .ref opR, .ref opG, .ref opP, .ref opQ, .ref okp, .ref okS, .ref okR, .ref okP, .ref okQ, .ref oli])), (obd, .inl (cI, 64, .inl bd)), (opa, .inl (cI, 9664, .inl pa)), (opS, .inl (cI, 151, .inl pS)), (opR, .inl (cI, 151, .inl pR)), (opG, .inl (cI, 151, .inl pG)), (opP, .inl (cI, 151, .inl pP)), (opQ, .inl (cI, 151, .inl pQ)), (okp, .inl (cI, 256, .inl kp_1011)), (okS, .inl (cI, 4, .inl kS)), (okR, .inl (cI, 4, .inl kR)), (okP, .inl (cI, 4, .inl kP)), (okQ, .inl (cI, 4, .inl kQ)), (oli, .inl (cI, 1320, .inl li))] H := by rw [ekp_1011]; exact hP
        have hD : va_D A [(oM, .inr (5, [.int mth, .int mpl, .ref obd, .int msd, .int mrt, .int mps, .int mqt, .int mmd, .ref opa, .ref opS, .ref opR, .ref opG, .ref opP, .ref opQ, .ref okp, .ref okS, .ref okR, .ref okP, .ref okQ, .ref oli])), (obd, .inl (cI, 64, .inl bd)), (opa, .inl (cI, 9664, .inl pa)), (opS, .inl (cI, 151, .inl pS)), (opR, .inl (cI, 151, .inl pR)), (opG, .inl (cI, 151, .inl pG)), (opP, .inl (cI, 151, .inl pP)), (opQ, .inl (cI, 151, .inl pQ)), (okp, .inl (cI, 256, .inl kp_1011)), (okS, .inl (cI, 4, .inl kS)), (okR, .inl (cI, 4, .inl kR)), (okP, .inl (cI, 4, .inl kP)), (okQ, .inl (cI, 4, .inl kQ)), (oli, .inl (cI, 1320, .inl li))] := by rw [ekp_1011]; exact hD
        obtain ⟨v1012, ev1012⟩ : ∃ z, z = x2 + 1 := ⟨_, rfl⟩
        replace hf := qq_lt ev1012 hf
        refine lv_iinc (k := 2) (v := v1012) (lv' := [(2, .int v1012), (0, .ref oM), (1, .int a1)]) hx hb dd_M_keep_25 hl rfl (by rw [ev1012]; exact congrArg _ (by decide)) (by decide) rfl (fun ls hl => ?_)
        refine lv_goto (tgt := 2) hx hb dd_M_keep_28 (by decide) ?_
        exact ih2 kp_1011 kS kR kP kQ v1012 _ _ _ (lv_sub hl [1, 2, 0] rfl) hP hD hS hf
  rw [fn_M_keep] at hf
  refine lv_iconst (v := 0) hx hb dd_M_keep_0 (by decide) ?_
  refine lv_istore_n (lv' := [(2, .int 0), (0, .ref oM), (1, .int a1)]) hx hb dd_M_keep_1 rfl hl (by decide) rfl (fun ls hl => ?_)
  exact hL2 qq_FU kp kS kR kP kQ 0 _ _ _ (lv_sub hl [1, 2, 0] rfl) hP hD hS hf
theorem dd_M_rightsOf_0 : decode bb_M_rightsOf 0 = .ok (.iload_n 0, 1) := by decide +kernel
theorem dd_M_rightsOf_1 : decode bb_M_rightsOf 1 = .ok (.lookupswitch 73 #[(0, 59), (4, 61), (7, 63), (56, 65), (60, 68), (63, 71)], 59) := by decide +kernel
theorem dd_M_rightsOf_60 : decode bb_M_rightsOf 60 = .ok (.iconst 2, 1) := by decide +kernel
theorem dd_M_rightsOf_61 : decode bb_M_rightsOf 61 = .ok (.ireturn, 1) := by decide +kernel
theorem dd_M_rightsOf_62 : decode bb_M_rightsOf 62 = .ok (.iconst 3, 1) := by decide +kernel
theorem dd_M_rightsOf_63 : decode bb_M_rightsOf 63 = .ok (.ireturn, 1) := by decide +kernel
theorem dd_M_rightsOf_64 : decode bb_M_rightsOf 64 = .ok (.iconst 1, 1) := by decide +kernel
theorem dd_M_rightsOf_65 : decode bb_M_rightsOf 65 = .ok (.ireturn, 1) := by decide +kernel
theorem dd_M_rightsOf_66 : decode bb_M_rightsOf 66 = .ok (.bipush 8, 2) := by decide +kernel
theorem dd_M_rightsOf_68 : decode bb_M_rightsOf 68 = .ok (.ireturn, 1) := by decide +kernel
theorem dd_M_rightsOf_69 : decode bb_M_rightsOf 69 = .ok (.bipush 12, 2) := by decide +kernel
theorem dd_M_rightsOf_71 : decode bb_M_rightsOf 71 = .ok (.ireturn, 1) := by decide +kernel
theorem dd_M_rightsOf_72 : decode bb_M_rightsOf 72 = .ok (.iconst 4, 1) := by decide +kernel
theorem dd_M_rightsOf_73 : decode bb_M_rightsOf 73 = .ok (.ireturn, 1) := by decide +kernel
theorem dd_M_rightsOf_74 : decode bb_M_rightsOf 74 = .ok (.iconst 0, 1) := by decide +kernel
theorem dd_M_rightsOf_75 : decode bb_M_rightsOf 75 = .ok (.ireturn, 1) := by decide +kernel
abbrev ty_M_rightsOf : Type := Int32
noncomputable def fn_M_rightsOf (a0 : Int32) : Option ty_M_rightsOf := if a0 = 0 then (some (2 : Int32)) else (if a0 = 4 then (some (3 : Int32)) else (if a0 = 7 then (some (1 : Int32)) else (if a0 = 56 then (some (8 : Int32)) else (if a0 = 60 then (some (12 : Int32)) else (if a0 = 63 then (some (4 : Int32)) else (some (0 : Int32)))))))
abbrev rm_M_rightsOf : Room := { frames := 0, cells := 0, slots := 0, locals := 0 }
set_option maxHeartbeats 4000000 in
set_option maxRecDepth 100000 in
theorem ct_M_rightsOf (l : Launch) (dC : Nat → ClassId) (dI : Nat → Nat → Nat) (cI cL cR : ClassId) (a0 : Int32) {rr : Int32} (hf : fn_M_rightsOf a0 = some rr) : qq_det l yy_M_rightsOf (ww_of yy_M_rightsOf bb_M_rightsOf 1 (some .int)) rm_M_rightsOf (dC, dI) (qq_ty cI cL cR) [.int a0] [] (some (.int rr)) [] := by
  refine qq_of (own := RR_M) (by decide) rfl (Nat.le_of_ble_eq_true rfl) ?_
  intro p e s m below meth c A Q ls hx hb hml hr hlocks hown hts hK hA hT hN hP hD hS hl hQ
  have hl : lv_has ls 1 [(0, .int a0)] := hl
  rw [fn_M_rightsOf] at hf
  refine lv_iload_n hx hb dd_M_rightsOf_0 rfl (lv_at hl 0 rfl) ?_
  by_cases hk0 : a0 = 0
  · replace hf := qq_t hk0 hf
    refine lv_lookup (tgt := 60) (off := 59) hx hb dd_M_rightsOf_1 (by decide) (by rw [hk0]; decide) (by decide) ?_
    refine lv_iconst (v := 2) hx hb dd_M_rightsOf_60 (by decide) ?_
    cases hf
    exact qq_iret hx hb hr hlocks hQ hP hD hK hS dd_M_rightsOf_61
  · replace hf := qq_f hk0 hf
    by_cases hk1 : a0 = 4
    · replace hf := qq_t hk1 hf
      refine lv_lookup (tgt := 62) (off := 61) hx hb dd_M_rightsOf_1 (by decide) (by rw [hk1]; decide) (by decide) ?_
      refine lv_iconst (v := 3) hx hb dd_M_rightsOf_62 (by decide) ?_
      cases hf
      exact qq_iret hx hb hr hlocks hQ hP hD hK hS dd_M_rightsOf_63
    · replace hf := qq_f hk1 hf
      by_cases hk2 : a0 = 7
      · replace hf := qq_t hk2 hf
        refine lv_lookup (tgt := 64) (off := 63) hx hb dd_M_rightsOf_1 (by decide) (by rw [hk2]; decide) (by decide) ?_
        refine lv_iconst (v := 1) hx hb dd_M_rightsOf_64 (by decide) ?_
        cases hf
        exact qq_iret hx hb hr hlocks hQ hP hD hK hS dd_M_rightsOf_65
      · replace hf := qq_f hk2 hf
        by_cases hk3 : a0 = 56
        · replace hf := qq_t hk3 hf
          refine lv_lookup (tgt := 66) (off := 65) hx hb dd_M_rightsOf_1 (by decide) (by rw [hk3]; decide) (by decide) ?_
          refine lv_bipush (v := 8) hx hb dd_M_rightsOf_66 (by decide) ?_
          cases hf
          exact qq_iret hx hb hr hlocks hQ hP hD hK hS dd_M_rightsOf_68
        · replace hf := qq_f hk3 hf
          by_cases hk4 : a0 = 60
          · replace hf := qq_t hk4 hf
            refine lv_lookup (tgt := 69) (off := 68) hx hb dd_M_rightsOf_1 (by decide) (by rw [hk4]; decide) (by decide) ?_
            refine lv_bipush (v := 12) hx hb dd_M_rightsOf_69 (by decide) ?_
            cases hf
            exact qq_iret hx hb hr hlocks hQ hP hD hK hS dd_M_rightsOf_71
          · replace hf := qq_f hk4 hf
            by_cases hk5 : a0 = 63
            · replace hf := qq_t hk5 hf
              refine lv_lookup (tgt := 72) (off := 71) hx hb dd_M_rightsOf_1 (by decide) (by rw [hk5]; decide) (by decide) ?_
              refine lv_iconst (v := 4) hx hb dd_M_rightsOf_72 (by decide) ?_
              cases hf
              exact qq_iret hx hb hr hlocks hQ hP hD hK hS dd_M_rightsOf_73
            · replace hf := qq_f hk5 hf
              refine lv_lookup (tgt := 74) (off := 73) hx hb dd_M_rightsOf_1 (by decide) (show Op.lookupswitch.offset [(0, 59), (4, 61), (7, 63), (56, 65), (60, 68), (63, 71)] 73 _ = _ from ((lv_osw hk0 (by decide)).trans ((lv_osw hk1 (by decide)).trans ((lv_osw hk2 (by decide)).trans ((lv_osw hk3 (by decide)).trans ((lv_osw hk4 (by decide)).trans ((lv_osw hk5 (by decide)).trans rfl))))))) (by decide) ?_
              refine lv_iconst (v := 0) hx hb dd_M_rightsOf_74 (by decide) ?_
              cases hf
              exact qq_iret hx hb hr hlocks hQ hP hD hK hS dd_M_rightsOf_75
theorem dd_M_go_0 : decode bb_M_go 0 = .ok (.aload_n 0, 1) := by decide +kernel
theorem dd_M_go_1 : decode bb_M_go 1 = .ok (.getfield 7, 3) := by decide +kernel
theorem dd_M_go_4 : decode bb_M_go 4 = .ok (.iload_n 1, 1) := by decide +kernel
theorem dd_M_go_5 : decode bb_M_go 5 = .ok (.iaload, 1) := by decide +kernel
theorem dd_M_go_6 : decode bb_M_go 6 = .ok (.istore 4, 2) := by decide +kernel
theorem dd_M_go_8 : decode bb_M_go 8 = .ok (.iload 4, 2) := by decide +kernel
theorem dd_M_go_10 : decode bb_M_go 10 = .ok (.invokestatic 73, 3) := by decide +kernel
theorem dd_M_go_13 : decode bb_M_go 13 = .ok (.iconst 1, 1) := by decide +kernel
theorem dd_M_go_14 : decode bb_M_go 14 = .ok (.if_icmp .ne 7, 3) := by decide +kernel
theorem dd_M_go_17 : decode bb_M_go 17 = .ok (.iconst 1, 1) := by decide +kernel
theorem dd_M_go_18 : decode bb_M_go 18 = .ok (.goto 4, 3) := by decide +kernel
theorem dd_M_go_21 : decode bb_M_go 21 = .ok (.iconst 0, 1) := by decide +kernel
theorem dd_M_go_22 : decode bb_M_go 22 = .ok (.istore 5, 2) := by decide +kernel
theorem dd_M_go_24 : decode bb_M_go 24 = .ok (.aload_n 0, 1) := by decide +kernel
theorem dd_M_go_25 : decode bb_M_go 25 = .ok (.getfield 7, 3) := by decide +kernel
theorem dd_M_go_28 : decode bb_M_go 28 = .ok (.iload_n 2, 1) := by decide +kernel
theorem dd_M_go_29 : decode bb_M_go 29 = .ok (.iaload, 1) := by decide +kernel
theorem dd_M_go_30 : decode bb_M_go 30 = .ok (.ifCond .eq 7, 3) := by decide +kernel
theorem dd_M_go_33 : decode bb_M_go 33 = .ok (.iconst 1, 1) := by decide +kernel
theorem dd_M_go_34 : decode bb_M_go 34 = .ok (.goto 4, 3) := by decide +kernel
theorem dd_M_go_37 : decode bb_M_go 37 = .ok (.iconst 0, 1) := by decide +kernel
theorem dd_M_go_38 : decode bb_M_go 38 = .ok (.istore 6, 2) := by decide +kernel
theorem dd_M_go_40 : decode bb_M_go 40 = .ok (.iload 5, 2) := by decide +kernel
theorem dd_M_go_42 : decode bb_M_go 42 = .ok (.ifCond .eq 37, 3) := by decide +kernel
theorem dd_M_go_45 : decode bb_M_go 45 = .ok (.iload_n 1, 1) := by decide +kernel
theorem dd_M_go_46 : decode bb_M_go 46 = .ok (.bipush 8, 2) := by decide +kernel
theorem dd_M_go_48 : decode bb_M_go 48 = .ok (.irem, 1) := by decide +kernel
theorem dd_M_go_49 : decode bb_M_go 49 = .ok (.iload_n 2, 1) := by decide +kernel
theorem dd_M_go_50 : decode bb_M_go 50 = .ok (.bipush 8, 2) := by decide +kernel
theorem dd_M_go_52 : decode bb_M_go 52 = .ok (.irem, 1) := by decide +kernel
theorem dd_M_go_53 : decode bb_M_go 53 = .ok (.if_icmp .eq 26, 3) := by decide +kernel
theorem dd_M_go_56 : decode bb_M_go 56 = .ok (.iload 6, 2) := by decide +kernel
theorem dd_M_go_58 : decode bb_M_go 58 = .ok (.ifCond .ne 21, 3) := by decide +kernel
theorem dd_M_go_61 : decode bb_M_go 61 = .ok (.aload_n 0, 1) := by decide +kernel
theorem dd_M_go_62 : decode bb_M_go 62 = .ok (.getfield 7, 3) := by decide +kernel
theorem dd_M_go_65 : decode bb_M_go 65 = .ok (.bipush 8, 2) := by decide +kernel
theorem dd_M_go_67 : decode bb_M_go 67 = .ok (.iload_n 1, 1) := by decide +kernel
theorem dd_M_go_68 : decode bb_M_go 68 = .ok (.bipush 8, 2) := by decide +kernel
theorem dd_M_go_70 : decode bb_M_go 70 = .ok (.idiv, 1) := by decide +kernel
theorem dd_M_go_71 : decode bb_M_go 71 = .ok (.imul, 1) := by decide +kernel
theorem dd_M_go_72 : decode bb_M_go 72 = .ok (.iload_n 2, 1) := by decide +kernel
theorem dd_M_go_73 : decode bb_M_go 73 = .ok (.bipush 8, 2) := by decide +kernel
theorem dd_M_go_75 : decode bb_M_go 75 = .ok (.irem, 1) := by decide +kernel
theorem dd_M_go_76 : decode bb_M_go 76 = .ok (.iadd, 1) := by decide +kernel
theorem dd_M_go_77 : decode bb_M_go 77 = .ok (.iconst 0, 1) := by decide +kernel
theorem dd_M_go_78 : decode bb_M_go 78 = .ok (.iastore, 1) := by decide +kernel
theorem dd_M_go_79 : decode bb_M_go 79 = .ok (.iload 4, 2) := by decide +kernel
theorem dd_M_go_81 : decode bb_M_go 81 = .ok (.invokestatic 73, 3) := by decide +kernel
theorem dd_M_go_84 : decode bb_M_go 84 = .ok (.bipush 6, 2) := by decide +kernel
theorem dd_M_go_86 : decode bb_M_go 86 = .ok (.if_icmp .ne 54, 3) := by decide +kernel
theorem dd_M_go_89 : decode bb_M_go 89 = .ok (.iload_n 2, 1) := by decide +kernel
theorem dd_M_go_90 : decode bb_M_go 90 = .ok (.iload_n 1, 1) := by decide +kernel
theorem dd_M_go_91 : decode bb_M_go 91 = .ok (.isub, 1) := by decide +kernel
theorem dd_M_go_92 : decode bb_M_go 92 = .ok (.invokestatic 70, 3) := by decide +kernel
theorem dd_M_go_95 : decode bb_M_go 95 = .ok (.iconst 2, 1) := by decide +kernel
theorem dd_M_go_96 : decode bb_M_go 96 = .ok (.if_icmp .ne 44, 3) := by decide +kernel
theorem dd_M_go_99 : decode bb_M_go 99 = .ok (.iload_n 2, 1) := by decide +kernel
theorem dd_M_go_100 : decode bb_M_go 100 = .ok (.iload_n 1, 1) := by decide +kernel
theorem dd_M_go_101 : decode bb_M_go 101 = .ok (.if_icmp .le 9, 3) := by decide +kernel
theorem dd_M_go_104 : decode bb_M_go 104 = .ok (.iload_n 2, 1) := by decide +kernel
theorem dd_M_go_105 : decode bb_M_go 105 = .ok (.iconst 1, 1) := by decide +kernel
theorem dd_M_go_106 : decode bb_M_go 106 = .ok (.iadd, 1) := by decide +kernel
theorem dd_M_go_107 : decode bb_M_go 107 = .ok (.goto 6, 3) := by decide +kernel
theorem dd_M_go_110 : decode bb_M_go 110 = .ok (.iload_n 2, 1) := by decide +kernel
theorem dd_M_go_111 : decode bb_M_go 111 = .ok (.iconst 2, 1) := by decide +kernel
theorem dd_M_go_112 : decode bb_M_go 112 = .ok (.isub, 1) := by decide +kernel
theorem dd_M_go_113 : decode bb_M_go 113 = .ok (.istore 7, 2) := by decide +kernel
theorem dd_M_go_115 : decode bb_M_go 115 = .ok (.aload_n 0, 1) := by decide +kernel
theorem dd_M_go_116 : decode bb_M_go 116 = .ok (.getfield 7, 3) := by decide +kernel
theorem dd_M_go_119 : decode bb_M_go 119 = .ok (.iload_n 1, 1) := by decide +kernel
theorem dd_M_go_120 : decode bb_M_go 120 = .ok (.iload_n 2, 1) := by decide +kernel
theorem dd_M_go_121 : decode bb_M_go 121 = .ok (.iadd, 1) := by decide +kernel
theorem dd_M_go_122 : decode bb_M_go 122 = .ok (.iconst 2, 1) := by decide +kernel
theorem dd_M_go_123 : decode bb_M_go 123 = .ok (.idiv, 1) := by decide +kernel
theorem dd_M_go_124 : decode bb_M_go 124 = .ok (.aload_n 0, 1) := by decide +kernel
theorem dd_M_go_125 : decode bb_M_go 125 = .ok (.getfield 7, 3) := by decide +kernel
theorem dd_M_go_128 : decode bb_M_go 128 = .ok (.iload 7, 2) := by decide +kernel
theorem dd_M_go_130 : decode bb_M_go 130 = .ok (.iaload, 1) := by decide +kernel
theorem dd_M_go_131 : decode bb_M_go 131 = .ok (.iastore, 1) := by decide +kernel
theorem dd_M_go_132 : decode bb_M_go 132 = .ok (.aload_n 0, 1) := by decide +kernel
theorem dd_M_go_133 : decode bb_M_go 133 = .ok (.getfield 7, 3) := by decide +kernel
theorem dd_M_go_136 : decode bb_M_go 136 = .ok (.iload 7, 2) := by decide +kernel
theorem dd_M_go_138 : decode bb_M_go 138 = .ok (.iconst 0, 1) := by decide +kernel
theorem dd_M_go_139 : decode bb_M_go 139 = .ok (.iastore, 1) := by decide +kernel
theorem dd_M_go_140 : decode bb_M_go 140 = .ok (.aload_n 0, 1) := by decide +kernel
theorem dd_M_go_141 : decode bb_M_go 141 = .ok (.getfield 7, 3) := by decide +kernel
theorem dd_M_go_144 : decode bb_M_go 144 = .ok (.iload_n 2, 1) := by decide +kernel
theorem dd_M_go_145 : decode bb_M_go 145 = .ok (.iload_n 3, 1) := by decide +kernel
theorem dd_M_go_146 : decode bb_M_go 146 = .ok (.ifCond .le 15, 3) := by decide +kernel
theorem dd_M_go_149 : decode bb_M_go 149 = .ok (.iload_n 3, 1) := by decide +kernel
theorem dd_M_go_150 : decode bb_M_go 150 = .ok (.bipush 6, 2) := by decide +kernel
theorem dd_M_go_152 : decode bb_M_go 152 = .ok (.aload_n 0, 1) := by decide +kernel
theorem dd_M_go_153 : decode bb_M_go 153 = .ok (.getfield 95, 3) := by decide +kernel
theorem dd_M_go_156 : decode bb_M_go 156 = .ok (.imul, 1) := by decide +kernel
theorem dd_M_go_157 : decode bb_M_go 157 = .ok (.iadd, 1) := by decide +kernel
theorem dd_M_go_158 : decode bb_M_go 158 = .ok (.goto 5, 3) := by decide +kernel
theorem dd_M_go_161 : decode bb_M_go 161 = .ok (.iload 4, 2) := by decide +kernel
theorem dd_M_go_163 : decode bb_M_go 163 = .ok (.iastore, 1) := by decide +kernel
theorem dd_M_go_164 : decode bb_M_go 164 = .ok (.aload_n 0, 1) := by decide +kernel
theorem dd_M_go_165 : decode bb_M_go 165 = .ok (.getfield 7, 3) := by decide +kernel
theorem dd_M_go_168 : decode bb_M_go 168 = .ok (.iload_n 1, 1) := by decide +kernel
theorem dd_M_go_169 : decode bb_M_go 169 = .ok (.iconst 0, 1) := by decide +kernel
theorem dd_M_go_170 : decode bb_M_go 170 = .ok (.iastore, 1) := by decide +kernel
theorem dd_M_go_171 : decode bb_M_go 171 = .ok (.aload_n 0, 1) := by decide +kernel
theorem dd_M_go_172 : decode bb_M_go 172 = .ok (.iload 5, 2) := by decide +kernel
theorem dd_M_go_174 : decode bb_M_go 174 = .ok (.ifCond .ne 8, 3) := by decide +kernel
theorem dd_M_go_177 : decode bb_M_go 177 = .ok (.iload 6, 2) := by decide +kernel
theorem dd_M_go_179 : decode bb_M_go 179 = .ok (.ifCond .eq 7, 3) := by decide +kernel
theorem dd_M_go_182 : decode bb_M_go 182 = .ok (.iconst 0, 1) := by decide +kernel
theorem dd_M_go_183 : decode bb_M_go 183 = .ok (.goto 9, 3) := by decide +kernel
theorem dd_M_go_186 : decode bb_M_go 186 = .ok (.aload_n 0, 1) := by decide +kernel
theorem dd_M_go_187 : decode bb_M_go 187 = .ok (.getfield 115, 3) := by decide +kernel
theorem dd_M_go_190 : decode bb_M_go 190 = .ok (.iconst 1, 1) := by decide +kernel
theorem dd_M_go_191 : decode bb_M_go 191 = .ok (.iadd, 1) := by decide +kernel
theorem dd_M_go_192 : decode bb_M_go 192 = .ok (.putfield 115, 3) := by decide +kernel
theorem dd_M_go_195 : decode bb_M_go 195 = .ok (.aload_n 0, 1) := by decide +kernel
theorem dd_M_go_196 : decode bb_M_go 196 = .ok (.aload_n 0, 1) := by decide +kernel
theorem dd_M_go_197 : decode bb_M_go 197 = .ok (.getfield 53, 3) := by decide +kernel
theorem dd_M_go_200 : decode bb_M_go 200 = .ok (.iload_n 1, 1) := by decide +kernel
theorem dd_M_go_201 : decode bb_M_go 201 = .ok (.invokestatic 118, 3) := by decide +kernel
theorem dd_M_go_204 : decode bb_M_go 204 = .ok (.iload_n 2, 1) := by decide +kernel
theorem dd_M_go_205 : decode bb_M_go 205 = .ok (.invokestatic 118, 3) := by decide +kernel
theorem dd_M_go_208 : decode bb_M_go 208 = .ok (.ior, 1) := by decide +kernel
theorem dd_M_go_209 : decode bb_M_go 209 = .ok (.iconst (-1), 1) := by decide +kernel
theorem dd_M_go_210 : decode bb_M_go 210 = .ok (.ixor, 1) := by decide +kernel
theorem dd_M_go_211 : decode bb_M_go 211 = .ok (.iand, 1) := by decide +kernel
theorem dd_M_go_212 : decode bb_M_go 212 = .ok (.putfield 53, 3) := by decide +kernel
theorem dd_M_go_215 : decode bb_M_go 215 = .ok (.aload_n 0, 1) := by decide +kernel
theorem dd_M_go_216 : decode bb_M_go 216 = .ok (.iload 5, 2) := by decide +kernel
theorem dd_M_go_218 : decode bb_M_go 218 = .ok (.ifCond .eq 21, 3) := by decide +kernel
theorem dd_M_go_221 : decode bb_M_go 221 = .ok (.iload_n 2, 1) := by decide +kernel
theorem dd_M_go_222 : decode bb_M_go 222 = .ok (.iload_n 1, 1) := by decide +kernel
theorem dd_M_go_223 : decode bb_M_go 223 = .ok (.isub, 1) := by decide +kernel
theorem dd_M_go_224 : decode bb_M_go 224 = .ok (.invokestatic 70, 3) := by decide +kernel
theorem dd_M_go_227 : decode bb_M_go 227 = .ok (.bipush 16, 2) := by decide +kernel
theorem dd_M_go_229 : decode bb_M_go 229 = .ok (.if_icmp .ne 10, 3) := by decide +kernel
theorem dd_M_go_232 : decode bb_M_go 232 = .ok (.iload_n 2, 1) := by decide +kernel
theorem dd_M_go_233 : decode bb_M_go 233 = .ok (.bipush 8, 2) := by decide +kernel
theorem dd_M_go_235 : decode bb_M_go 235 = .ok (.irem, 1) := by decide +kernel
theorem dd_M_go_236 : decode bb_M_go 236 = .ok (.goto 4, 3) := by decide +kernel
theorem dd_M_go_239 : decode bb_M_go 239 = .ok (.iconst (-1), 1) := by decide +kernel
theorem dd_M_go_240 : decode bb_M_go 240 = .ok (.putfield 13, 3) := by decide +kernel
theorem dd_M_go_243 : decode bb_M_go 243 = .ok (.aload_n 0, 1) := by decide +kernel
theorem dd_M_go_244 : decode bb_M_go 244 = .ok (.iconst 1, 1) := by decide +kernel
theorem dd_M_go_245 : decode bb_M_go 245 = .ok (.aload_n 0, 1) := by decide +kernel
theorem dd_M_go_246 : decode bb_M_go 246 = .ok (.getfield 95, 3) := by decide +kernel
theorem dd_M_go_249 : decode bb_M_go 249 = .ok (.isub, 1) := by decide +kernel
theorem dd_M_go_250 : decode bb_M_go 250 = .ok (.putfield 95, 3) := by decide +kernel
theorem dd_M_go_253 : decode bb_M_go 253 = .ok (.return_, 1) := by decide +kernel
abbrev ty_M_go : Type := Int32 × Int32 × Int32 × Int32 × (Nat → Int32)
noncomputable def bk_M_go_240 (a1 : Int32) (a2 : Int32) (a3 : Int32) (msd : Int32) (mrt : Int32) (mps : Int32) (mqt : Int32) (bd : Nat → Int32) (s1 : Int32) : Option ty_M_go := qq_let (1 - msd) fun v1001 => some (v1001, mrt, s1, mqt, bd)
noncomputable def bk_M_go_239 (a1 : Int32) (a2 : Int32) (a3 : Int32) (msd : Int32) (mrt : Int32) (mps : Int32) (mqt : Int32) (bd : Nat → Int32) : Option ty_M_go := bk_M_go_240 a1 a2 a3 msd mrt mps mqt bd (-1)
noncomputable def bk_M_go_192 (a1 : Int32) (a2 : Int32) (a3 : Int32) (msd : Int32) (mrt : Int32) (mps : Int32) (mqt : Int32) (bd : Nat → Int32) (x5 : Int32) (s1 : Int32) : Option ty_M_go := (fn_M_rightsOf a1).bind fun r3001 => (fn_M_rightsOf a2).bind fun r3002 => qq_let (mrt &&& ((r3001 ||| r3002) ^^^ (-1))) fun v3003 => if x5 = 0 then (bk_M_go_239 a1 a2 a3 msd v3003 mps s1 bd) else ((fn_M_size (a2 - a1)).bind fun r3004 => if r3004 = 16 then (bk_M_go_240 a1 a2 a3 msd v3003 mps s1 bd (a2 - a2 / 8 * 8)) else (bk_M_go_239 a1 a2 a3 msd v3003 mps s1 bd))
noncomputable def bk_M_go_182 (a1 : Int32) (a2 : Int32) (a3 : Int32) (msd : Int32) (mrt : Int32) (mps : Int32) (mqt : Int32) (bd : Nat → Int32) (x5 : Int32) : Option ty_M_go := bk_M_go_192 a1 a2 a3 msd mrt mps mqt bd x5 0
noncomputable def bk_M_go_163 (a1 : Int32) (a2 : Int32) (a3 : Int32) (msd : Int32) (mrt : Int32) (mps : Int32) (mqt : Int32) (bd : Nat → Int32) (x5 : Int32) (x6 : Int32) (s1 : Int32) (s2 : Int32) : Option ty_M_go := qq_ck (qq_in s1 64) <| qq_let (upd bd s1.toNatClampNeg s2) fun bd_5002 => qq_ck (qq_in a1 64) <| qq_let (upd bd_5002 a1.toNatClampNeg 0) fun bd_5004 => if x5 = 0 then (if x6 = 0 then (bk_M_go_192 a1 a2 a3 msd mrt mps mqt bd_5004 x5 (mqt + 1)) else (bk_M_go_182 a1 a2 a3 msd mrt mps mqt bd_5004 x5)) else (bk_M_go_182 a1 a2 a3 msd mrt mps mqt bd_5004 x5)
noncomputable def bk_M_go_140 (a1 : Int32) (a2 : Int32) (a3 : Int32) (msd : Int32) (mrt : Int32) (mps : Int32) (mqt : Int32) (bd : Nat → Int32) (x4 : Int32) (x5 : Int32) (x6 : Int32) : Option ty_M_go := if a3 ≤ 0 then (bk_M_go_163 a1 a2 a3 msd mrt mps mqt bd x5 x6 a2 x4) else (bk_M_go_163 a1 a2 a3 msd mrt mps mqt bd x5 x6 a2 (a3 + (6 * msd)))
noncomputable def bk_M_go_113 (a1 : Int32) (a2 : Int32) (a3 : Int32) (msd : Int32) (mrt : Int32) (mps : Int32) (mqt : Int32) (bd : Nat → Int32) (x4 : Int32) (x5 : Int32) (x6 : Int32) (s0 : Int32) : Option ty_M_go := qq_ck (qq_in s0 64) <| qq_ck (qq_in ((a1 + a2) / 2) 64) <| qq_let (upd bd ((a1 + a2) / 2).toNatClampNeg (bd s0.toNatClampNeg)) fun bd_7003 => qq_ck (qq_in s0 64) <| qq_let (upd bd_7003 s0.toNatClampNeg 0) fun bd_7005 => bk_M_go_140 a1 a2 a3 msd mrt mps mqt bd_7005 x4 x5 x6
noncomputable def bk_M_go_79 (a1 : Int32) (a2 : Int32) (a3 : Int32) (msd : Int32) (mrt : Int32) (mps : Int32) (mqt : Int32) (bd : Nat → Int32) (x4 : Int32) (x5 : Int32) (x6 : Int32) : Option ty_M_go := (fn_M_kindOf x4).bind fun r8001 => if r8001 = 6 then ((fn_M_size (a2 - a1)).bind fun r8002 => if r8002 = 2 then (if a2 ≤ a1 then (bk_M_go_113 a1 a2 a3 msd mrt mps mqt bd x4 x5 x6 (a2 - 2)) else (bk_M_go_113 a1 a2 a3 msd mrt mps mqt bd x4 x5 x6 (a2 + 1))) else (bk_M_go_140 a1 a2 a3 msd mrt mps mqt bd x4 x5 x6)) else (bk_M_go_140 a1 a2 a3 msd mrt mps mqt bd x4 x5 x6)
noncomputable def bk_M_go_38 (a1 : Int32) (a2 : Int32) (a3 : Int32) (msd : Int32) (mrt : Int32) (mps : Int32) (mqt : Int32) (bd : Nat → Int32) (x4 : Int32) (x5 : Int32) (s0 : Int32) : Option ty_M_go := if x5 = 0 then (bk_M_go_79 a1 a2 a3 msd mrt mps mqt bd x4 x5 s0) else (if (a1 - a1 / 8 * 8) = (a2 - a2 / 8 * 8) then (bk_M_go_79 a1 a2 a3 msd mrt mps mqt bd x4 x5 s0) else (if s0 = 0 then (qq_ck (qq_in ((8 * (a1 / 8)) + (a2 - a2 / 8 * 8)) 64) <| qq_let (upd bd ((8 * (a1 / 8)) + (a2 - a2 / 8 * 8)).toNatClampNeg 0) fun bd_9002 => bk_M_go_79 a1 a2 a3 msd mrt mps mqt bd_9002 x4 x5 s0) else (bk_M_go_79 a1 a2 a3 msd mrt mps mqt bd x4 x5 s0)))
noncomputable def bk_M_go_22 (a1 : Int32) (a2 : Int32) (a3 : Int32) (msd : Int32) (mrt : Int32) (mps : Int32) (mqt : Int32) (bd : Nat → Int32) (x4 : Int32) (s0 : Int32) : Option ty_M_go := qq_ck (qq_in a2 64) <| if (bd a2.toNatClampNeg) = 0 then (bk_M_go_38 a1 a2 a3 msd mrt mps mqt bd x4 s0 0) else (bk_M_go_38 a1 a2 a3 msd mrt mps mqt bd x4 s0 1)
noncomputable def fn_M_go (msd : Int32) (mrt : Int32) (mps : Int32) (mqt : Int32) (bd : Nat → Int32) (a1 : Int32) (a2 : Int32) (a3 : Int32) : Option ty_M_go := qq_ck (qq_in a1 64) <| qq_let (bd a1.toNatClampNeg) fun v2 => (fn_M_kindOf v2).bind fun r3 => if r3 = 1 then (bk_M_go_22 a1 a2 a3 msd mrt mps mqt bd v2 1) else (bk_M_go_22 a1 a2 a3 msd mrt mps mqt bd v2 0)
abbrev rm_M_go : Room := { frames := 1, cells := 0, slots := 0, locals := 20 }
set_option maxHeartbeats 4000000 in
set_option maxRecDepth 100000 in
theorem ct_M_go (l : Launch) (dC : Nat → ClassId) (dI : Nat → Nat → Nat) (cI cL cR : ClassId) (oM obd opa opS opR opG opP opQ okp okS okR okP okQ oli : Nat) (mth : Int32) (mpl : Int32) (msd : Int32) (mrt : Int32) (mps : Int32) (mqt : Int32) (mmd : Int32) (bd : Nat → Int32) (pa : Nat → Int32) (pS : Nat → Int32) (pR : Nat → Int32) (pG : Nat → Int32) (pP : Nat → Int32) (pQ : Nat → Int32) (kp : Nat → Int32) (kS : Nat → Int32) (kR : Nat → Int32) (kP : Nat → Int32) (kQ : Nat → Int32) (li : Nat → Int32) (a1 : Int32) (a2 : Int32) (a3 : Int32) {msd' : Int32} {mrt' : Int32} {mps' : Int32} {mqt' : Int32} {bd' : Nat → Int32} (hf : fn_M_go msd mrt mps mqt bd a1 a2 a3 = some (msd', mrt', mps', mqt', bd')) : qq_det l yy_M_go (ww_of yy_M_go bb_M_go 8 none) rm_M_go (dC, dI) (qq_ty cI cL cR) [.ref oM, .int a1, .int a2, .int a3] [(oM, .inr (5, [.int mth, .int mpl, .ref obd, .int msd, .int mrt, .int mps, .int mqt, .int mmd, .ref opa, .ref opS, .ref opR, .ref opG, .ref opP, .ref opQ, .ref okp, .ref okS, .ref okR, .ref okP, .ref okQ, .ref oli])), (obd, .inl (cI, 64, .inl bd)), (opa, .inl (cI, 9664, .inl pa)), (opS, .inl (cI, 151, .inl pS)), (opR, .inl (cI, 151, .inl pR)), (opG, .inl (cI, 151, .inl pG)), (opP, .inl (cI, 151, .inl pP)), (opQ, .inl (cI, 151, .inl pQ)), (okp, .inl (cI, 256, .inl kp)), (okS, .inl (cI, 4, .inl kS)), (okR, .inl (cI, 4, .inl kR)), (okP, .inl (cI, 4, .inl kP)), (okQ, .inl (cI, 4, .inl kQ)), (oli, .inl (cI, 1320, .inl li))] none [(oM, .inr (5, [.int mth, .int mpl, .ref obd, .int msd', .int mrt', .int mps', .int mqt', .int mmd, .ref opa, .ref opS, .ref opR, .ref opG, .ref opP, .ref opQ, .ref okp, .ref okS, .ref okR, .ref okP, .ref okQ, .ref oli])), (obd, .inl (cI, 64, .inl bd')), (opa, .inl (cI, 9664, .inl pa)), (opS, .inl (cI, 151, .inl pS)), (opR, .inl (cI, 151, .inl pR)), (opG, .inl (cI, 151, .inl pG)), (opP, .inl (cI, 151, .inl pP)), (opQ, .inl (cI, 151, .inl pQ)), (okp, .inl (cI, 256, .inl kp)), (okS, .inl (cI, 4, .inl kS)), (okR, .inl (cI, 4, .inl kR)), (okP, .inl (cI, 4, .inl kP)), (okQ, .inl (cI, 4, .inl kQ)), (oli, .inl (cI, 1320, .inl li))] := by
  refine qq_of (own := RR_M) (by decide) rfl (Nat.le_of_ble_eq_true rfl) ?_
  intro p e s m below meth c A Q ls hx hb hml hr hlocks hown hts hK hA hT hN hP hD hS hl hQ
  have hl : lv_has ls 8 [(0, .ref oM), (1, .int a1), (2, .int a2), (3, .int a3)] := hl
  have hJ240 : ∀ (msd : Int32) (mrt : Int32) (mps : Int32) (mqt : Int32) (bd : Nat → Int32) (s1 : Int32) (H : Heap) (locs : List Loc) (ls : Array Slot), lv_has ls 8 [(0, .ref oM)] → va_P (dC, dI) classes [(oM, .inr (5, [.int mth, .int mpl, .ref obd, .int msd, .int mrt, .int mps, .int mqt, .int mmd, .ref opa, .ref opS, .ref opR, .ref opG, .ref opP, .ref opQ, .ref okp, .ref okS, .ref okR, .ref okP, .ref okQ, .ref oli])), (obd, .inl (cI, 64, .inl bd)), (opa, .inl (cI, 9664, .inl pa)), (opS, .inl (cI, 151, .inl pS)), (opR, .inl (cI, 151, .inl pR)), (opG, .inl (cI, 151, .inl pG)), (opP, .inl (cI, 151, .inl pP)), (opQ, .inl (cI, 151, .inl pQ)), (okp, .inl (cI, 256, .inl kp)), (okS, .inl (cI, 4, .inl kS)), (okR, .inl (cI, 4, .inl kR)), (okP, .inl (cI, 4, .inl kP)), (okQ, .inl (cI, 4, .inl kQ)), (oli, .inl (cI, 1320, .inl li))] H → va_D A [(oM, .inr (5, [.int mth, .int mpl, .ref obd, .int msd, .int mrt, .int mps, .int mqt, .int mmd, .ref opa, .ref opS, .ref opR, .ref opG, .ref opP, .ref opQ, .ref okp, .ref okS, .ref okR, .ref okP, .ref okQ, .ref oli])), (obd, .inl (cI, 64, .inl bd)), (opa, .inl (cI, 9664, .inl pa)), (opS, .inl (cI, 151, .inl pS)), (opR, .inl (cI, 151, .inl pR)), (opG, .inl (cI, 151, .inl pG)), (opP, .inl (cI, 151, .inl pP)), (opQ, .inl (cI, 151, .inl pQ)), (okp, .inl (cI, 256, .inl kp)), (okS, .inl (cI, 4, .inl kS)), (okR, .inl (cI, 4, .inl kR)), (okP, .inl (cI, 4, .inl kP)), (okQ, .inl (cI, 4, .inl kQ)), (oli, .inl (cI, 1320, .inl li))] → va_S A s.heap H locs → bk_M_go_240 a1 a2 a3 msd mrt mps mqt bd s1 = some (msd', mrt', mps', mqt', bd') → W p l e rm_M_go s m ([.ref oM, .int a1, .int a2, .int a3] : List Value).toArray below meth c H locs 0 0 Q (F0 m 240 ls [.int s1, .ref oM]) := by
    intro msd mrt mps mqt bd s1 H locs ls hl hP hD hS hf
    rw [bk_M_go_240] at hf
    refine va_put (D := (dC, dI)) (ci := 5) (v := .int s1) (ty := .int) (C := RR_M) (T := FF_M) (N := 20) hx hb hts uu_M tt_M tt_M_ok nn_M hown hK hP hD hS 0 rfl rfl 5 (by decide) (hts _ mm_227) (fun _ h9 => h9) rfl (by decide +kernel) rfl rfl (Nat.le_of_ble_eq_true rfl) dd_M_go_240 (fun H locs hP hD hS => ?_)
    have hP : va_P (dC, dI) classes [(oM, .inr (5, [.int mth, .int mpl, .ref obd, .int msd, .int mrt, .int s1, .int mqt, .int mmd, .ref opa, .ref opS, .ref opR, .ref opG, .ref opP, .ref opQ, .ref okp, .ref okS, .ref okR, .ref okP, .ref okQ, .ref oli])), (obd, .inl (cI, 64, .inl bd)), (opa, .inl (cI, 9664, .inl pa)), (opS, .inl (cI, 151, .inl pS)), (opR, .inl (cI, 151, .inl pR)), (opG, .inl (cI, 151, .inl pG)), (opP, .inl (cI, 151, .inl pP)), (opQ, .inl (cI, 151, .inl pQ)), (okp, .inl (cI, 256, .inl kp)), (okS, .inl (cI, 4, .inl kS)), (okR, .inl (cI, 4, .inl kR)), (okP, .inl (cI, 4, .inl kP)), (okQ, .inl (cI, 4, .inl kQ)), (oli, .inl (cI, 1320, .inl li))] H := hP
    have hD : va_D A [(oM, .inr (5, [.int mth, .int mpl, .ref obd, .int msd, .int mrt, .int s1, .int mqt, .int mmd, .ref opa, .ref opS, .ref opR, .ref opG, .ref opP, .ref opQ, .ref okp, .ref okS, .ref okR, .ref okP, .ref okQ, .ref oli])), (obd, .inl (cI, 64, .inl bd)), (opa, .inl (cI, 9664, .inl pa)), (opS, .inl (cI, 151, .inl pS)), (opR, .inl (cI, 151, .inl pR)), (opG, .inl (cI, 151, .inl pG)), (opP, .inl (cI, 151, .inl pP)), (opQ, .inl (cI, 151, .inl pQ)), (okp, .inl (cI, 256, .inl kp)), (okS, .inl (cI, 4, .inl kS)), (okR, .inl (cI, 4, .inl kR)), (okP, .inl (cI, 4, .inl kP)), (okQ, .inl (cI, 4, .inl kQ)), (oli, .inl (cI, 1320, .inl li))] := hD
    refine lv_aload_n hx hb dd_M_go_243 rfl (lv_at hl 0 rfl) ?_
    refine lv_iconst (v := 1) hx hb dd_M_go_244 (by decide) ?_
    refine lv_aload_n hx hb dd_M_go_245 rfl (lv_at hl 0 rfl) ?_
    refine va_get (D := (dC, dI)) (ci := 5) (v := .int msd) (C := RR_M) (T := FF_M) (N := 20) hx hb hts uu_M hown hK hP 0 rfl rfl 3 (by decide) (hts _ mm_228) (fun _ h9 => h9) rfl dd_M_go_246 ?_
    refine lv_isub hx hb dd_M_go_249 ?_
    refine lv_topi (fun v1001 ev1001 => ?_)
    replace hf := qq_lt ev1001 hf
    refine va_put (D := (dC, dI)) (ci := 5) (v := .int v1001) (ty := .int) (C := RR_M) (T := FF_M) (N := 20) hx hb hts uu_M tt_M tt_M_ok nn_M hown hK hP hD hS 0 rfl rfl 3 (by decide) (hts _ mm_228) (fun _ h9 => h9) rfl (by decide +kernel) rfl rfl (Nat.le_of_ble_eq_true rfl) dd_M_go_250 (fun H locs hP hD hS => ?_)
    have hP : va_P (dC, dI) classes [(oM, .inr (5, [.int mth, .int mpl, .ref obd, .int v1001, .int mrt, .int s1, .int mqt, .int mmd, .ref opa, .ref opS, .ref opR, .ref opG, .ref opP, .ref opQ, .ref okp, .ref okS, .ref okR, .ref okP, .ref okQ, .ref oli])), (obd, .inl (cI, 64, .inl bd)), (opa, .inl (cI, 9664, .inl pa)), (opS, .inl (cI, 151, .inl pS)), (opR, .inl (cI, 151, .inl pR)), (opG, .inl (cI, 151, .inl pG)), (opP, .inl (cI, 151, .inl pP)), (opQ, .inl (cI, 151, .inl pQ)), (okp, .inl (cI, 256, .inl kp)), (okS, .inl (cI, 4, .inl kS)), (okR, .inl (cI, 4, .inl kR)), (okP, .inl (cI, 4, .inl kP)), (okQ, .inl (cI, 4, .inl kQ)), (oli, .inl (cI, 1320, .inl li))] H := hP
    have hD : va_D A [(oM, .inr (5, [.int mth, .int mpl, .ref obd, .int v1001, .int mrt, .int s1, .int mqt, .int mmd, .ref opa, .ref opS, .ref opR, .ref opG, .ref opP, .ref opQ, .ref okp, .ref okS, .ref okR, .ref okP, .ref okQ, .ref oli])), (obd, .inl (cI, 64, .inl bd)), (opa, .inl (cI, 9664, .inl pa)), (opS, .inl (cI, 151, .inl pS)), (opR, .inl (cI, 151, .inl pR)), (opG, .inl (cI, 151, .inl pG)), (opP, .inl (cI, 151, .inl pP)), (opQ, .inl (cI, 151, .inl pQ)), (okp, .inl (cI, 256, .inl kp)), (okS, .inl (cI, 4, .inl kS)), (okR, .inl (cI, 4, .inl kR)), (okP, .inl (cI, 4, .inl kP)), (okQ, .inl (cI, 4, .inl kQ)), (oli, .inl (cI, 1320, .inl li))] := hD
    cases hf
    exact qq_vret hx hb hr hlocks hQ hP hD hK hS dd_M_go_253
  have hJ239 : ∀ (msd : Int32) (mrt : Int32) (mps : Int32) (mqt : Int32) (bd : Nat → Int32) (H : Heap) (locs : List Loc) (ls : Array Slot), lv_has ls 8 [(0, .ref oM)] → va_P (dC, dI) classes [(oM, .inr (5, [.int mth, .int mpl, .ref obd, .int msd, .int mrt, .int mps, .int mqt, .int mmd, .ref opa, .ref opS, .ref opR, .ref opG, .ref opP, .ref opQ, .ref okp, .ref okS, .ref okR, .ref okP, .ref okQ, .ref oli])), (obd, .inl (cI, 64, .inl bd)), (opa, .inl (cI, 9664, .inl pa)), (opS, .inl (cI, 151, .inl pS)), (opR, .inl (cI, 151, .inl pR)), (opG, .inl (cI, 151, .inl pG)), (opP, .inl (cI, 151, .inl pP)), (opQ, .inl (cI, 151, .inl pQ)), (okp, .inl (cI, 256, .inl kp)), (okS, .inl (cI, 4, .inl kS)), (okR, .inl (cI, 4, .inl kR)), (okP, .inl (cI, 4, .inl kP)), (okQ, .inl (cI, 4, .inl kQ)), (oli, .inl (cI, 1320, .inl li))] H → va_D A [(oM, .inr (5, [.int mth, .int mpl, .ref obd, .int msd, .int mrt, .int mps, .int mqt, .int mmd, .ref opa, .ref opS, .ref opR, .ref opG, .ref opP, .ref opQ, .ref okp, .ref okS, .ref okR, .ref okP, .ref okQ, .ref oli])), (obd, .inl (cI, 64, .inl bd)), (opa, .inl (cI, 9664, .inl pa)), (opS, .inl (cI, 151, .inl pS)), (opR, .inl (cI, 151, .inl pR)), (opG, .inl (cI, 151, .inl pG)), (opP, .inl (cI, 151, .inl pP)), (opQ, .inl (cI, 151, .inl pQ)), (okp, .inl (cI, 256, .inl kp)), (okS, .inl (cI, 4, .inl kS)), (okR, .inl (cI, 4, .inl kR)), (okP, .inl (cI, 4, .inl kP)), (okQ, .inl (cI, 4, .inl kQ)), (oli, .inl (cI, 1320, .inl li))] → va_S A s.heap H locs → bk_M_go_239 a1 a2 a3 msd mrt mps mqt bd = some (msd', mrt', mps', mqt', bd') → W p l e rm_M_go s m ([.ref oM, .int a1, .int a2, .int a3] : List Value).toArray below meth c H locs 0 0 Q (F0 m 239 ls [.ref oM]) := by
    intro msd mrt mps mqt bd H locs ls hl hP hD hS hf
    rw [bk_M_go_239] at hf
    refine lv_iconst (v := (-1)) hx hb dd_M_go_239 (by decide) ?_
    exact hJ240 msd mrt mps mqt bd (-1) _ _ _ (lv_sub hl [0] rfl) hP hD hS hf
  have hJ192 : ∀ (msd : Int32) (mrt : Int32) (mps : Int32) (mqt : Int32) (bd : Nat → Int32) (x5 : Int32) (s1 : Int32) (H : Heap) (locs : List Loc) (ls : Array Slot), lv_has ls 8 [(0, .ref oM), (1, .int a1), (2, .int a2), (5, .int x5)] → va_P (dC, dI) classes [(oM, .inr (5, [.int mth, .int mpl, .ref obd, .int msd, .int mrt, .int mps, .int mqt, .int mmd, .ref opa, .ref opS, .ref opR, .ref opG, .ref opP, .ref opQ, .ref okp, .ref okS, .ref okR, .ref okP, .ref okQ, .ref oli])), (obd, .inl (cI, 64, .inl bd)), (opa, .inl (cI, 9664, .inl pa)), (opS, .inl (cI, 151, .inl pS)), (opR, .inl (cI, 151, .inl pR)), (opG, .inl (cI, 151, .inl pG)), (opP, .inl (cI, 151, .inl pP)), (opQ, .inl (cI, 151, .inl pQ)), (okp, .inl (cI, 256, .inl kp)), (okS, .inl (cI, 4, .inl kS)), (okR, .inl (cI, 4, .inl kR)), (okP, .inl (cI, 4, .inl kP)), (okQ, .inl (cI, 4, .inl kQ)), (oli, .inl (cI, 1320, .inl li))] H → va_D A [(oM, .inr (5, [.int mth, .int mpl, .ref obd, .int msd, .int mrt, .int mps, .int mqt, .int mmd, .ref opa, .ref opS, .ref opR, .ref opG, .ref opP, .ref opQ, .ref okp, .ref okS, .ref okR, .ref okP, .ref okQ, .ref oli])), (obd, .inl (cI, 64, .inl bd)), (opa, .inl (cI, 9664, .inl pa)), (opS, .inl (cI, 151, .inl pS)), (opR, .inl (cI, 151, .inl pR)), (opG, .inl (cI, 151, .inl pG)), (opP, .inl (cI, 151, .inl pP)), (opQ, .inl (cI, 151, .inl pQ)), (okp, .inl (cI, 256, .inl kp)), (okS, .inl (cI, 4, .inl kS)), (okR, .inl (cI, 4, .inl kR)), (okP, .inl (cI, 4, .inl kP)), (okQ, .inl (cI, 4, .inl kQ)), (oli, .inl (cI, 1320, .inl li))] → va_S A s.heap H locs → bk_M_go_192 a1 a2 a3 msd mrt mps mqt bd x5 s1 = some (msd', mrt', mps', mqt', bd') → W p l e rm_M_go s m ([.ref oM, .int a1, .int a2, .int a3] : List Value).toArray below meth c H locs 0 0 Q (F0 m 192 ls [.int s1, .ref oM]) := by
    intro msd mrt mps mqt bd x5 s1 H locs ls hl hP hD hS hf
    rw [bk_M_go_192] at hf
    refine va_put (D := (dC, dI)) (ci := 5) (v := .int s1) (ty := .int) (C := RR_M) (T := FF_M) (N := 20) hx hb hts uu_M tt_M tt_M_ok nn_M hown hK hP hD hS 0 rfl rfl 6 (by decide) (hts _ mm_268) (fun _ h9 => h9) rfl (by decide +kernel) rfl rfl (Nat.le_of_ble_eq_true rfl) dd_M_go_192 (fun H locs hP hD hS => ?_)
    have hP : va_P (dC, dI) classes [(oM, .inr (5, [.int mth, .int mpl, .ref obd, .int msd, .int mrt, .int mps, .int s1, .int mmd, .ref opa, .ref opS, .ref opR, .ref opG, .ref opP, .ref opQ, .ref okp, .ref okS, .ref okR, .ref okP, .ref okQ, .ref oli])), (obd, .inl (cI, 64, .inl bd)), (opa, .inl (cI, 9664, .inl pa)), (opS, .inl (cI, 151, .inl pS)), (opR, .inl (cI, 151, .inl pR)), (opG, .inl (cI, 151, .inl pG)), (opP, .inl (cI, 151, .inl pP)), (opQ, .inl (cI, 151, .inl pQ)), (okp, .inl (cI, 256, .inl kp)), (okS, .inl (cI, 4, .inl kS)), (okR, .inl (cI, 4, .inl kR)), (okP, .inl (cI, 4, .inl kP)), (okQ, .inl (cI, 4, .inl kQ)), (oli, .inl (cI, 1320, .inl li))] H := hP
    have hD : va_D A [(oM, .inr (5, [.int mth, .int mpl, .ref obd, .int msd, .int mrt, .int mps, .int s1, .int mmd, .ref opa, .ref opS, .ref opR, .ref opG, .ref opP, .ref opQ, .ref okp, .ref okS, .ref okR, .ref okP, .ref okQ, .ref oli])), (obd, .inl (cI, 64, .inl bd)), (opa, .inl (cI, 9664, .inl pa)), (opS, .inl (cI, 151, .inl pS)), (opR, .inl (cI, 151, .inl pR)), (opG, .inl (cI, 151, .inl pG)), (opP, .inl (cI, 151, .inl pP)), (opQ, .inl (cI, 151, .inl pQ)), (okp, .inl (cI, 256, .inl kp)), (okS, .inl (cI, 4, .inl kS)), (okR, .inl (cI, 4, .inl kR)), (okP, .inl (cI, 4, .inl kP)), (okQ, .inl (cI, 4, .inl kQ)), (oli, .inl (cI, 1320, .inl li))] := hD
    refine lv_aload_n hx hb dd_M_go_195 rfl (lv_at hl 0 rfl) ?_
    refine lv_aload_n hx hb dd_M_go_196 rfl (lv_at hl 0 rfl) ?_
    refine va_get (D := (dC, dI)) (ci := 5) (v := .int mrt) (C := RR_M) (T := FF_M) (N := 20) hx hb hts uu_M hown hK hP 0 rfl rfl 4 (by decide) (hts _ mm_255) (fun _ h9 => h9) rfl dd_M_go_197 ?_
    refine lv_iload_n hx hb dd_M_go_200 rfl (lv_at hl 1 rfl) ?_
    obtain ⟨r3001, hy3001, hf⟩ := qq_bd hf
    refine qq_S (As := [.int a1]) (rest := [.int mrt, .ref oM]) (wr := [(oM, .inr (5, [.int mth, .int mpl, .ref obd, .int msd, .int mrt, .int mps, .int s1, .int mmd, .ref opa, .ref opS, .ref opR, .ref opG, .ref opP, .ref opQ, .ref okp, .ref okS, .ref okR, .ref okP, .ref okQ, .ref oli])), (obd, .inl (cI, 64, .inl bd)), (opa, .inl (cI, 9664, .inl pa)), (opS, .inl (cI, 151, .inl pS)), (opR, .inl (cI, 151, .inl pR)), (opG, .inl (cI, 151, .inl pG)), (opP, .inl (cI, 151, .inl pP)), (opQ, .inl (cI, 151, .inl pQ)), (okp, .inl (cI, 256, .inl kp)), (okS, .inl (cI, 4, .inl kS)), (okR, .inl (cI, 4, .inl kR)), (okP, .inl (cI, 4, .inl kP)), (okQ, .inl (cI, 4, .inl kQ)), (oli, .inl (cI, 1320, .inl li))]) (wf := [(oM, .inr (5, [.int mth, .int mpl, .ref obd, .int msd, .int mrt, .int mps, .int s1, .int mmd, .ref opa, .ref opS, .ref opR, .ref opG, .ref opP, .ref opQ, .ref okp, .ref okS, .ref okR, .ref okP, .ref okQ, .ref oli])), (obd, .inl (cI, 64, .inl bd)), (opa, .inl (cI, 9664, .inl pa)), (opS, .inl (cI, 151, .inl pS)), (opR, .inl (cI, 151, .inl pR)), (opG, .inl (cI, 151, .inl pG)), (opP, .inl (cI, 151, .inl pP)), (opQ, .inl (cI, 151, .inl pQ)), (okp, .inl (cI, 256, .inl kp)), (okS, .inl (cI, 4, .inl kS)), (okR, .inl (cI, 4, .inl kR)), (okP, .inl (cI, 4, .inl kP)), (okQ, .inl (cI, 4, .inl kQ)), (oli, .inl (cI, 1320, .inl li))]) ⟨hx, hb, hml, hown, hts⟩ (ct_M_rightsOf l dC dI cI cL cR a1 hy3001) mm_271 mm_272 mm_270 mm_211 hd_M_rightsOf (by decide) qq_00 hP hD hK hS hA hT hN [] [0, 1, 2, 3, 4, 5, 6, 7, 8, 9, 10, 11, 12, 13] [0, 1, 2, 3, 4, 5, 6, 7, 8, 9, 10, 11, 12, 13] rfl rfl rfl (by decide) rfl hl.1 rfl (Nat.le_of_ble_eq_true rfl) dd_M_go_201 (fun H locs hP hD hS => ?_)
    refine W.eq (g2 := F0 m 204 ls [.int r3001, .int mrt, .ref oM]) rfl ?_
    refine lv_iload_n hx hb dd_M_go_204 rfl (lv_at hl 2 rfl) ?_
    obtain ⟨r3002, hy3002, hf⟩ := qq_bd hf
    refine qq_S (As := [.int a2]) (rest := [.int r3001, .int mrt, .ref oM]) (wr := [(oM, .inr (5, [.int mth, .int mpl, .ref obd, .int msd, .int mrt, .int mps, .int s1, .int mmd, .ref opa, .ref opS, .ref opR, .ref opG, .ref opP, .ref opQ, .ref okp, .ref okS, .ref okR, .ref okP, .ref okQ, .ref oli])), (obd, .inl (cI, 64, .inl bd)), (opa, .inl (cI, 9664, .inl pa)), (opS, .inl (cI, 151, .inl pS)), (opR, .inl (cI, 151, .inl pR)), (opG, .inl (cI, 151, .inl pG)), (opP, .inl (cI, 151, .inl pP)), (opQ, .inl (cI, 151, .inl pQ)), (okp, .inl (cI, 256, .inl kp)), (okS, .inl (cI, 4, .inl kS)), (okR, .inl (cI, 4, .inl kR)), (okP, .inl (cI, 4, .inl kP)), (okQ, .inl (cI, 4, .inl kQ)), (oli, .inl (cI, 1320, .inl li))]) (wf := [(oM, .inr (5, [.int mth, .int mpl, .ref obd, .int msd, .int mrt, .int mps, .int s1, .int mmd, .ref opa, .ref opS, .ref opR, .ref opG, .ref opP, .ref opQ, .ref okp, .ref okS, .ref okR, .ref okP, .ref okQ, .ref oli])), (obd, .inl (cI, 64, .inl bd)), (opa, .inl (cI, 9664, .inl pa)), (opS, .inl (cI, 151, .inl pS)), (opR, .inl (cI, 151, .inl pR)), (opG, .inl (cI, 151, .inl pG)), (opP, .inl (cI, 151, .inl pP)), (opQ, .inl (cI, 151, .inl pQ)), (okp, .inl (cI, 256, .inl kp)), (okS, .inl (cI, 4, .inl kS)), (okR, .inl (cI, 4, .inl kR)), (okP, .inl (cI, 4, .inl kP)), (okQ, .inl (cI, 4, .inl kQ)), (oli, .inl (cI, 1320, .inl li))]) ⟨hx, hb, hml, hown, hts⟩ (ct_M_rightsOf l dC dI cI cL cR a2 hy3002) mm_271 mm_272 mm_270 mm_211 hd_M_rightsOf (by decide) qq_00 hP hD hK hS hA hT hN [] [0, 1, 2, 3, 4, 5, 6, 7, 8, 9, 10, 11, 12, 13] [0, 1, 2, 3, 4, 5, 6, 7, 8, 9, 10, 11, 12, 13] rfl rfl rfl (by decide) rfl hl.1 rfl (Nat.le_of_ble_eq_true rfl) dd_M_go_205 (fun H locs hP hD hS => ?_)
    refine W.eq (g2 := F0 m 208 ls [.int r3002, .int r3001, .int mrt, .ref oM]) rfl ?_
    refine lv_ior hx hb dd_M_go_208 ?_
    refine lv_iconst (v := (-1)) hx hb dd_M_go_209 (by decide) ?_
    refine lv_ixor hx hb dd_M_go_210 ?_
    refine lv_iand hx hb dd_M_go_211 ?_
    refine lv_topi (fun v3003 ev3003 => ?_)
    replace hf := qq_lt ev3003 hf
    refine va_put (D := (dC, dI)) (ci := 5) (v := .int v3003) (ty := .int) (C := RR_M) (T := FF_M) (N := 20) hx hb hts uu_M tt_M tt_M_ok nn_M hown hK hP hD hS 0 rfl rfl 4 (by decide) (hts _ mm_255) (fun _ h9 => h9) rfl (by decide +kernel) rfl rfl (Nat.le_of_ble_eq_true rfl) dd_M_go_212 (fun H locs hP hD hS => ?_)
    have hP : va_P (dC, dI) classes [(oM, .inr (5, [.int mth, .int mpl, .ref obd, .int msd, .int v3003, .int mps, .int s1, .int mmd, .ref opa, .ref opS, .ref opR, .ref opG, .ref opP, .ref opQ, .ref okp, .ref okS, .ref okR, .ref okP, .ref okQ, .ref oli])), (obd, .inl (cI, 64, .inl bd)), (opa, .inl (cI, 9664, .inl pa)), (opS, .inl (cI, 151, .inl pS)), (opR, .inl (cI, 151, .inl pR)), (opG, .inl (cI, 151, .inl pG)), (opP, .inl (cI, 151, .inl pP)), (opQ, .inl (cI, 151, .inl pQ)), (okp, .inl (cI, 256, .inl kp)), (okS, .inl (cI, 4, .inl kS)), (okR, .inl (cI, 4, .inl kR)), (okP, .inl (cI, 4, .inl kP)), (okQ, .inl (cI, 4, .inl kQ)), (oli, .inl (cI, 1320, .inl li))] H := hP
    have hD : va_D A [(oM, .inr (5, [.int mth, .int mpl, .ref obd, .int msd, .int v3003, .int mps, .int s1, .int mmd, .ref opa, .ref opS, .ref opR, .ref opG, .ref opP, .ref opQ, .ref okp, .ref okS, .ref okR, .ref okP, .ref okQ, .ref oli])), (obd, .inl (cI, 64, .inl bd)), (opa, .inl (cI, 9664, .inl pa)), (opS, .inl (cI, 151, .inl pS)), (opR, .inl (cI, 151, .inl pR)), (opG, .inl (cI, 151, .inl pG)), (opP, .inl (cI, 151, .inl pP)), (opQ, .inl (cI, 151, .inl pQ)), (okp, .inl (cI, 256, .inl kp)), (okS, .inl (cI, 4, .inl kS)), (okR, .inl (cI, 4, .inl kR)), (okP, .inl (cI, 4, .inl kP)), (okQ, .inl (cI, 4, .inl kQ)), (oli, .inl (cI, 1320, .inl li))] := hD
    refine lv_aload_n hx hb dd_M_go_215 rfl (lv_at hl 0 rfl) ?_
    refine lv_iload hx hb dd_M_go_216 (lv_at hl 3 rfl) ?_
    refine lv_if_eq (tgt := 239) hx hb dd_M_go_218 (by decide) (fun hc => ?_) (fun hc => ?_)
    · replace hf := qq_t hc hf
      exact hJ239 msd v3003 mps s1 bd _ _ _ (lv_sub hl [0] rfl) hP hD hS hf
    · replace hf := qq_f hc hf
      refine lv_iload_n hx hb dd_M_go_221 rfl (lv_at hl 2 rfl) ?_
      refine lv_iload_n hx hb dd_M_go_222 rfl (lv_at hl 1 rfl) ?_
      refine lv_isub hx hb dd_M_go_223 ?_
      obtain ⟨r3004, hy3004, hf⟩ := qq_bd hf
      refine qq_S (As := [.int (a2 - a1)]) (rest := [.ref oM]) (wr := [(oM, .inr (5, [.int mth, .int mpl, .ref obd, .int msd, .int v3003, .int mps, .int s1, .int mmd, .ref opa, .ref opS, .ref opR, .ref opG, .ref opP, .ref opQ, .ref okp, .ref okS, .ref okR, .ref okP, .ref okQ, .ref oli])), (obd, .inl (cI, 64, .inl bd)), (opa, .inl (cI, 9664, .inl pa)), (opS, .inl (cI, 151, .inl pS)), (opR, .inl (cI, 151, .inl pR)), (opG, .inl (cI, 151, .inl pG)), (opP, .inl (cI, 151, .inl pP)), (opQ, .inl (cI, 151, .inl pQ)), (okp, .inl (cI, 256, .inl kp)), (okS, .inl (cI, 4, .inl kS)), (okR, .inl (cI, 4, .inl kR)), (okP, .inl (cI, 4, .inl kP)), (okQ, .inl (cI, 4, .inl kQ)), (oli, .inl (cI, 1320, .inl li))]) (wf := [(oM, .inr (5, [.int mth, .int mpl, .ref obd, .int msd, .int v3003, .int mps, .int s1, .int mmd, .ref opa, .ref opS, .ref opR, .ref opG, .ref opP, .ref opQ, .ref okp, .ref okS, .ref okR, .ref okP, .ref okQ, .ref oli])), (obd, .inl (cI, 64, .inl bd)), (opa, .inl (cI, 9664, .inl pa)), (opS, .inl (cI, 151, .inl pS)), (opR, .inl (cI, 151, .inl pR)), (opG, .inl (cI, 151, .inl pG)), (opP, .inl (cI, 151, .inl pP)), (opQ, .inl (cI, 151, .inl pQ)), (okp, .inl (cI, 256, .inl kp)), (okS, .inl (cI, 4, .inl kS)), (okR, .inl (cI, 4, .inl kR)), (okP, .inl (cI, 4, .inl kP)), (okQ, .inl (cI, 4, .inl kQ)), (oli, .inl (cI, 1320, .inl li))]) ⟨hx, hb, hml, hown, hts⟩ (ct_M_size l dC dI cI cL cR (a2 - a1) hy3004) mm_225 mm_226 mm_224 mm_211 hd_M_size (by decide) qq_00 hP hD hK hS hA hT hN [] [0, 1, 2, 3, 4, 5, 6, 7, 8, 9, 10, 11, 12, 13] [0, 1, 2, 3, 4, 5, 6, 7, 8, 9, 10, 11, 12, 13] rfl rfl rfl (by decide) rfl hl.1 rfl (Nat.le_of_ble_eq_true rfl) dd_M_go_224 (fun H locs hP hD hS => ?_)
      refine W.eq (g2 := F0 m 227 ls [.int r3004, .ref oM]) rfl ?_
      refine lv_bipush (v := 16) hx hb dd_M_go_227 (by decide) ?_
      refine lv_icmp_ne (tgt := 239) hx hb dd_M_go_229 (by decide) (fun hc => ?_) (fun hc => ?_)
      · replace hf := qq_f hc hf
        exact hJ239 msd v3003 mps s1 bd _ _ _ (lv_sub hl [0] rfl) hP hD hS hf
      · replace hf := qq_t hc hf
        refine lv_iload_n hx hb dd_M_go_232 rfl (lv_at hl 2 rfl) ?_
        refine lv_bipush (v := 8) hx hb dd_M_go_233 (by decide) ?_
        refine lv_irem hx hb dd_M_go_235 (by decide) ?_
        refine lv_goto (tgt := 240) hx hb dd_M_go_236 (by decide) ?_
        exact hJ240 msd v3003 mps s1 bd (a2 - a2 / 8 * 8) _ _ _ (lv_sub hl [0] rfl) hP hD hS hf
  have hJ182 : ∀ (msd : Int32) (mrt : Int32) (mps : Int32) (mqt : Int32) (bd : Nat → Int32) (x5 : Int32) (H : Heap) (locs : List Loc) (ls : Array Slot), lv_has ls 8 [(0, .ref oM), (1, .int a1), (2, .int a2), (5, .int x5)] → va_P (dC, dI) classes [(oM, .inr (5, [.int mth, .int mpl, .ref obd, .int msd, .int mrt, .int mps, .int mqt, .int mmd, .ref opa, .ref opS, .ref opR, .ref opG, .ref opP, .ref opQ, .ref okp, .ref okS, .ref okR, .ref okP, .ref okQ, .ref oli])), (obd, .inl (cI, 64, .inl bd)), (opa, .inl (cI, 9664, .inl pa)), (opS, .inl (cI, 151, .inl pS)), (opR, .inl (cI, 151, .inl pR)), (opG, .inl (cI, 151, .inl pG)), (opP, .inl (cI, 151, .inl pP)), (opQ, .inl (cI, 151, .inl pQ)), (okp, .inl (cI, 256, .inl kp)), (okS, .inl (cI, 4, .inl kS)), (okR, .inl (cI, 4, .inl kR)), (okP, .inl (cI, 4, .inl kP)), (okQ, .inl (cI, 4, .inl kQ)), (oli, .inl (cI, 1320, .inl li))] H → va_D A [(oM, .inr (5, [.int mth, .int mpl, .ref obd, .int msd, .int mrt, .int mps, .int mqt, .int mmd, .ref opa, .ref opS, .ref opR, .ref opG, .ref opP, .ref opQ, .ref okp, .ref okS, .ref okR, .ref okP, .ref okQ, .ref oli])), (obd, .inl (cI, 64, .inl bd)), (opa, .inl (cI, 9664, .inl pa)), (opS, .inl (cI, 151, .inl pS)), (opR, .inl (cI, 151, .inl pR)), (opG, .inl (cI, 151, .inl pG)), (opP, .inl (cI, 151, .inl pP)), (opQ, .inl (cI, 151, .inl pQ)), (okp, .inl (cI, 256, .inl kp)), (okS, .inl (cI, 4, .inl kS)), (okR, .inl (cI, 4, .inl kR)), (okP, .inl (cI, 4, .inl kP)), (okQ, .inl (cI, 4, .inl kQ)), (oli, .inl (cI, 1320, .inl li))] → va_S A s.heap H locs → bk_M_go_182 a1 a2 a3 msd mrt mps mqt bd x5 = some (msd', mrt', mps', mqt', bd') → W p l e rm_M_go s m ([.ref oM, .int a1, .int a2, .int a3] : List Value).toArray below meth c H locs 0 0 Q (F0 m 182 ls [.ref oM]) := by
    intro msd mrt mps mqt bd x5 H locs ls hl hP hD hS hf
    rw [bk_M_go_182] at hf
    refine lv_iconst (v := 0) hx hb dd_M_go_182 (by decide) ?_
    refine lv_goto (tgt := 192) hx hb dd_M_go_183 (by decide) ?_
    exact hJ192 msd mrt mps mqt bd x5 0 _ _ _ (lv_sub hl [0, 1, 2, 3] rfl) hP hD hS hf
  have hJ163 : ∀ (msd : Int32) (mrt : Int32) (mps : Int32) (mqt : Int32) (bd : Nat → Int32) (x5 : Int32) (x6 : Int32) (s1 : Int32) (s2 : Int32) (H : Heap) (locs : List Loc) (ls : Array Slot), lv_has ls 8 [(0, .ref oM), (1, .int a1), (2, .int a2), (5, .int x5), (6, .int x6)] → va_P (dC, dI) classes [(oM, .inr (5, [.int mth, .int mpl, .ref obd, .int msd, .int mrt, .int mps, .int mqt, .int mmd, .ref opa, .ref opS, .ref opR, .ref opG, .ref opP, .ref opQ, .ref okp, .ref okS, .ref okR, .ref okP, .ref okQ, .ref oli])), (obd, .inl (cI, 64, .inl bd)), (opa, .inl (cI, 9664, .inl pa)), (opS, .inl (cI, 151, .inl pS)), (opR, .inl (cI, 151, .inl pR)), (opG, .inl (cI, 151, .inl pG)), (opP, .inl (cI, 151, .inl pP)), (opQ, .inl (cI, 151, .inl pQ)), (okp, .inl (cI, 256, .inl kp)), (okS, .inl (cI, 4, .inl kS)), (okR, .inl (cI, 4, .inl kR)), (okP, .inl (cI, 4, .inl kP)), (okQ, .inl (cI, 4, .inl kQ)), (oli, .inl (cI, 1320, .inl li))] H → va_D A [(oM, .inr (5, [.int mth, .int mpl, .ref obd, .int msd, .int mrt, .int mps, .int mqt, .int mmd, .ref opa, .ref opS, .ref opR, .ref opG, .ref opP, .ref opQ, .ref okp, .ref okS, .ref okR, .ref okP, .ref okQ, .ref oli])), (obd, .inl (cI, 64, .inl bd)), (opa, .inl (cI, 9664, .inl pa)), (opS, .inl (cI, 151, .inl pS)), (opR, .inl (cI, 151, .inl pR)), (opG, .inl (cI, 151, .inl pG)), (opP, .inl (cI, 151, .inl pP)), (opQ, .inl (cI, 151, .inl pQ)), (okp, .inl (cI, 256, .inl kp)), (okS, .inl (cI, 4, .inl kS)), (okR, .inl (cI, 4, .inl kR)), (okP, .inl (cI, 4, .inl kP)), (okQ, .inl (cI, 4, .inl kQ)), (oli, .inl (cI, 1320, .inl li))] → va_S A s.heap H locs → bk_M_go_163 a1 a2 a3 msd mrt mps mqt bd x5 x6 s1 s2 = some (msd', mrt', mps', mqt', bd') → W p l e rm_M_go s m ([.ref oM, .int a1, .int a2, .int a3] : List Value).toArray below meth c H locs 0 0 Q (F0 m 163 ls [.int s2, .int s1, .ref obd]) := by
    intro msd mrt mps mqt bd x5 x6 s1 s2 H locs ls hl hP hD hS hf
    rw [bk_M_go_163] at hf
    obtain ⟨hi5001, hf⟩ := qq_ckE hf
    refine va_iast (D := (dC, dI)) (f := bd) (n := 64) (cA := cI) hx hb hK hP hD hS 1 0 rfl rfl (qq_inE hi5001) dd_M_go_163 (fun H locs hP hD hS => ?_)
    obtain ⟨bd_5002, ebd_5002⟩ : ∃ z, z = upd bd s1.toNatClampNeg s2 := ⟨_, rfl⟩
    replace hf := qq_lt ebd_5002 hf
    have hP : va_P (dC, dI) classes [(oM, .inr (5, [.int mth, .int mpl, .ref obd, .int msd, .int mrt, .int mps, .int mqt, .int mmd, .ref opa, .ref opS, .ref opR, .ref opG, .ref opP, .ref opQ, .ref okp, .ref okS, .ref okR, .ref okP, .ref okQ, .ref oli])), (obd, .inl (cI, 64, .inl bd_5002)), (opa, .inl (cI, 9664, .inl pa)), (opS, .inl (cI, 151, .inl pS)), (opR, .inl (cI, 151, .inl pR)), (opG, .inl (cI, 151, .inl pG)), (opP, .inl (cI, 151, .inl pP)), (opQ, .inl (cI, 151, .inl pQ)), (okp, .inl (cI, 256, .inl kp)), (okS, .inl (cI, 4, .inl kS)), (okR, .inl (cI, 4, .inl kR)), (okP, .inl (cI, 4, .inl kP)), (okQ, .inl (cI, 4, .inl kQ)), (oli, .inl (cI, 1320, .inl li))] H := by rw [ebd_5002]; exact hP
    have hD : va_D A [(oM, .inr (5, [.int mth, .int mpl, .ref obd, .int msd, .int mrt, .int mps, .int mqt, .int mmd, .ref opa, .ref opS, .ref opR, .ref opG, .ref opP, .ref opQ, .ref okp, .ref okS, .ref okR, .ref okP, .ref okQ, .ref oli])), (obd, .inl (cI, 64, .inl bd_5002)), (opa, .inl (cI, 9664, .inl pa)), (opS, .inl (cI, 151, .inl pS)), (opR, .inl (cI, 151, .inl pR)), (opG, .inl (cI, 151, .inl pG)), (opP, .inl (cI, 151, .inl pP)), (opQ, .inl (cI, 151, .inl pQ)), (okp, .inl (cI, 256, .inl kp)), (okS, .inl (cI, 4, .inl kS)), (okR, .inl (cI, 4, .inl kR)), (okP, .inl (cI, 4, .inl kP)), (okQ, .inl (cI, 4, .inl kQ)), (oli, .inl (cI, 1320, .inl li))] := by rw [ebd_5002]; exact hD
    refine lv_aload_n hx hb dd_M_go_164 rfl (lv_at hl 0 rfl) ?_
    refine va_get (D := (dC, dI)) (ci := 5) (v := .ref obd) (C := RR_M) (T := FF_M) (N := 20) hx hb hts uu_M hown hK hP 0 rfl rfl 2 (by decide) (hts _ mm_209) (fun _ h9 => h9) rfl dd_M_go_165 ?_
    refine lv_iload_n hx hb dd_M_go_168 rfl (lv_at hl 1 rfl) ?_
    refine lv_iconst (v := 0) hx hb dd_M_go_169 (by decide) ?_
    obtain ⟨hi5003, hf⟩ := qq_ckE hf
    refine va_iast (D := (dC, dI)) (f := bd_5002) (n := 64) (cA := cI) hx hb hK hP hD hS 1 0 rfl rfl (qq_inE hi5003) dd_M_go_170 (fun H locs hP hD hS => ?_)
    obtain ⟨bd_5004, ebd_5004⟩ : ∃ z, z = upd bd_5002 a1.toNatClampNeg 0 := ⟨_, rfl⟩
    replace hf := qq_lt ebd_5004 hf
    have hP : va_P (dC, dI) classes [(oM, .inr (5, [.int mth, .int mpl, .ref obd, .int msd, .int mrt, .int mps, .int mqt, .int mmd, .ref opa, .ref opS, .ref opR, .ref opG, .ref opP, .ref opQ, .ref okp, .ref okS, .ref okR, .ref okP, .ref okQ, .ref oli])), (obd, .inl (cI, 64, .inl bd_5004)), (opa, .inl (cI, 9664, .inl pa)), (opS, .inl (cI, 151, .inl pS)), (opR, .inl (cI, 151, .inl pR)), (opG, .inl (cI, 151, .inl pG)), (opP, .inl (cI, 151, .inl pP)), (opQ, .inl (cI, 151, .inl pQ)), (okp, .inl (cI, 256, .inl kp)), (okS, .inl (cI, 4, .inl kS)), (okR, .inl (cI, 4, .inl kR)), (okP, .inl (cI, 4, .inl kP)), (okQ, .inl (cI, 4, .inl kQ)), (oli, .inl (cI, 1320, .inl li))] H := by rw [ebd_5004]; exact hP
    have hD : va_D A [(oM, .inr (5, [.int mth, .int mpl, .ref obd, .int msd, .int mrt, .int mps, .int mqt, .int mmd, .ref opa, .ref opS, .ref opR, .ref opG, .ref opP, .ref opQ, .ref okp, .ref okS, .ref okR, .ref okP, .ref okQ, .ref oli])), (obd, .inl (cI, 64, .inl bd_5004)), (opa, .inl (cI, 9664, .inl pa)), (opS, .inl (cI, 151, .inl pS)), (opR, .inl (cI, 151, .inl pR)), (opG, .inl (cI, 151, .inl pG)), (opP, .inl (cI, 151, .inl pP)), (opQ, .inl (cI, 151, .inl pQ)), (okp, .inl (cI, 256, .inl kp)), (okS, .inl (cI, 4, .inl kS)), (okR, .inl (cI, 4, .inl kR)), (okP, .inl (cI, 4, .inl kP)), (okQ, .inl (cI, 4, .inl kQ)), (oli, .inl (cI, 1320, .inl li))] := by rw [ebd_5004]; exact hD
    refine lv_aload_n hx hb dd_M_go_171 rfl (lv_at hl 0 rfl) ?_
    refine lv_iload hx hb dd_M_go_172 (lv_at hl 3 rfl) ?_
    refine lv_if_ne (tgt := 182) hx hb dd_M_go_174 (by decide) (fun hc => ?_) (fun hc => ?_)
    · replace hf := qq_f hc hf
      exact hJ182 msd mrt mps mqt bd_5004 x5 _ _ _ (lv_sub hl [0, 1, 2, 3] rfl) hP hD hS hf
    · replace hf := qq_t hc hf
      refine lv_iload hx hb dd_M_go_177 (lv_at hl 4 rfl) ?_
      refine lv_if_eq (tgt := 186) hx hb dd_M_go_179 (by decide) (fun hc => ?_) (fun hc => ?_)
      · replace hf := qq_t hc hf
        refine lv_aload_n hx hb dd_M_go_186 rfl (lv_at hl 0 rfl) ?_
        refine va_get (D := (dC, dI)) (ci := 5) (v := .int mqt) (C := RR_M) (T := FF_M) (N := 20) hx hb hts uu_M hown hK hP 0 rfl rfl 6 (by decide) (hts _ mm_268) (fun _ h9 => h9) rfl dd_M_go_187 ?_
        refine lv_iconst (v := 1) hx hb dd_M_go_190 (by decide) ?_
        refine lv_iadd hx hb dd_M_go_191 ?_
        exact hJ192 msd mrt mps mqt bd_5004 x5 (mqt + 1) _ _ _ (lv_sub hl [0, 1, 2, 3] rfl) hP hD hS hf
      · replace hf := qq_f hc hf
        exact hJ182 msd mrt mps mqt bd_5004 x5 _ _ _ (lv_sub hl [0, 1, 2, 3] rfl) hP hD hS hf
  have hJ140 : ∀ (msd : Int32) (mrt : Int32) (mps : Int32) (mqt : Int32) (bd : Nat → Int32) (x4 : Int32) (x5 : Int32) (x6 : Int32) (H : Heap) (locs : List Loc) (ls : Array Slot), lv_has ls 8 [(0, .ref oM), (1, .int a1), (2, .int a2), (3, .int a3), (4, .int x4), (5, .int x5), (6, .int x6)] → va_P (dC, dI) classes [(oM, .inr (5, [.int mth, .int mpl, .ref obd, .int msd, .int mrt, .int mps, .int mqt, .int mmd, .ref opa, .ref opS, .ref opR, .ref opG, .ref opP, .ref opQ, .ref okp, .ref okS, .ref okR, .ref okP, .ref okQ, .ref oli])), (obd, .inl (cI, 64, .inl bd)), (opa, .inl (cI, 9664, .inl pa)), (opS, .inl (cI, 151, .inl pS)), (opR, .inl (cI, 151, .inl pR)), (opG, .inl (cI, 151, .inl pG)), (opP, .inl (cI, 151, .inl pP)), (opQ, .inl (cI, 151, .inl pQ)), (okp, .inl (cI, 256, .inl kp)), (okS, .inl (cI, 4, .inl kS)), (okR, .inl (cI, 4, .inl kR)), (okP, .inl (cI, 4, .inl kP)), (okQ, .inl (cI, 4, .inl kQ)), (oli, .inl (cI, 1320, .inl li))] H → va_D A [(oM, .inr (5, [.int mth, .int mpl, .ref obd, .int msd, .int mrt, .int mps, .int mqt, .int mmd, .ref opa, .ref opS, .ref opR, .ref opG, .ref opP, .ref opQ, .ref okp, .ref okS, .ref okR, .ref okP, .ref okQ, .ref oli])), (obd, .inl (cI, 64, .inl bd)), (opa, .inl (cI, 9664, .inl pa)), (opS, .inl (cI, 151, .inl pS)), (opR, .inl (cI, 151, .inl pR)), (opG, .inl (cI, 151, .inl pG)), (opP, .inl (cI, 151, .inl pP)), (opQ, .inl (cI, 151, .inl pQ)), (okp, .inl (cI, 256, .inl kp)), (okS, .inl (cI, 4, .inl kS)), (okR, .inl (cI, 4, .inl kR)), (okP, .inl (cI, 4, .inl kP)), (okQ, .inl (cI, 4, .inl kQ)), (oli, .inl (cI, 1320, .inl li))] → va_S A s.heap H locs → bk_M_go_140 a1 a2 a3 msd mrt mps mqt bd x4 x5 x6 = some (msd', mrt', mps', mqt', bd') → W p l e rm_M_go s m ([.ref oM, .int a1, .int a2, .int a3] : List Value).toArray below meth c H locs 0 0 Q (F0 m 140 ls []) := by
    intro msd mrt mps mqt bd x4 x5 x6 H locs ls hl hP hD hS hf
    rw [bk_M_go_140] at hf
    refine lv_aload_n hx hb dd_M_go_140 rfl (lv_at hl 0 rfl) ?_
    refine va_get (D := (dC, dI)) (ci := 5) (v := .ref obd) (C := RR_M) (T := FF_M) (N := 20) hx hb hts uu_M hown hK hP 0 rfl rfl 2 (by decide) (hts _ mm_209) (fun _ h9 => h9) rfl dd_M_go_141 ?_
    refine lv_iload_n hx hb dd_M_go_144 rfl (lv_at hl 2 rfl) ?_
    refine lv_iload_n hx hb dd_M_go_145 rfl (lv_at hl 3 rfl) ?_
    refine lv_if_le (tgt := 161) hx hb dd_M_go_146 (by decide) (fun hc => ?_) (fun hc => ?_)
    · replace hf := qq_t hc hf
      refine lv_iload hx hb dd_M_go_161 (lv_at hl 4 rfl) ?_
      exact hJ163 msd mrt mps mqt bd x5 x6 a2 x4 _ _ _ (lv_sub hl [0, 1, 2, 5, 6] rfl) hP hD hS hf
    · replace hf := qq_f hc hf
      refine lv_iload_n hx hb dd_M_go_149 rfl (lv_at hl 3 rfl) ?_
      refine lv_bipush (v := 6) hx hb dd_M_go_150 (by decide) ?_
      refine lv_aload_n hx hb dd_M_go_152 rfl (lv_at hl 0 rfl) ?_
      refine va_get (D := (dC, dI)) (ci := 5) (v := .int msd) (C := RR_M) (T := FF_M) (N := 20) hx hb hts uu_M hown hK hP 0 rfl rfl 3 (by decide) (hts _ mm_228) (fun _ h9 => h9) rfl dd_M_go_153 ?_
      refine lv_imul hx hb dd_M_go_156 ?_
      refine lv_iadd hx hb dd_M_go_157 ?_
      refine lv_goto (tgt := 163) hx hb dd_M_go_158 (by decide) ?_
      exact hJ163 msd mrt mps mqt bd x5 x6 a2 (a3 + (6 * msd)) _ _ _ (lv_sub hl [0, 1, 2, 5, 6] rfl) hP hD hS hf
  have hJ113 : ∀ (msd : Int32) (mrt : Int32) (mps : Int32) (mqt : Int32) (bd : Nat → Int32) (x4 : Int32) (x5 : Int32) (x6 : Int32) (s0 : Int32) (H : Heap) (locs : List Loc) (ls : Array Slot), lv_has ls 8 [(0, .ref oM), (1, .int a1), (2, .int a2), (3, .int a3), (4, .int x4), (5, .int x5), (6, .int x6)] → va_P (dC, dI) classes [(oM, .inr (5, [.int mth, .int mpl, .ref obd, .int msd, .int mrt, .int mps, .int mqt, .int mmd, .ref opa, .ref opS, .ref opR, .ref opG, .ref opP, .ref opQ, .ref okp, .ref okS, .ref okR, .ref okP, .ref okQ, .ref oli])), (obd, .inl (cI, 64, .inl bd)), (opa, .inl (cI, 9664, .inl pa)), (opS, .inl (cI, 151, .inl pS)), (opR, .inl (cI, 151, .inl pR)), (opG, .inl (cI, 151, .inl pG)), (opP, .inl (cI, 151, .inl pP)), (opQ, .inl (cI, 151, .inl pQ)), (okp, .inl (cI, 256, .inl kp)), (okS, .inl (cI, 4, .inl kS)), (okR, .inl (cI, 4, .inl kR)), (okP, .inl (cI, 4, .inl kP)), (okQ, .inl (cI, 4, .inl kQ)), (oli, .inl (cI, 1320, .inl li))] H → va_D A [(oM, .inr (5, [.int mth, .int mpl, .ref obd, .int msd, .int mrt, .int mps, .int mqt, .int mmd, .ref opa, .ref opS, .ref opR, .ref opG, .ref opP, .ref opQ, .ref okp, .ref okS, .ref okR, .ref okP, .ref okQ, .ref oli])), (obd, .inl (cI, 64, .inl bd)), (opa, .inl (cI, 9664, .inl pa)), (opS, .inl (cI, 151, .inl pS)), (opR, .inl (cI, 151, .inl pR)), (opG, .inl (cI, 151, .inl pG)), (opP, .inl (cI, 151, .inl pP)), (opQ, .inl (cI, 151, .inl pQ)), (okp, .inl (cI, 256, .inl kp)), (okS, .inl (cI, 4, .inl kS)), (okR, .inl (cI, 4, .inl kR)), (okP, .inl (cI, 4, .inl kP)), (okQ, .inl (cI, 4, .inl kQ)), (oli, .inl (cI, 1320, .inl li))] → va_S A s.heap H locs → bk_M_go_113 a1 a2 a3 msd mrt mps mqt bd x4 x5 x6 s0 = some (msd', mrt', mps', mqt', bd') → W p l e rm_M_go s m ([.ref oM, .int a1, .int a2, .int a3] : List Value).toArray below meth c H locs 0 0 Q (F0 m 113 ls [.int s0]) := by
    intro msd mrt mps mqt bd x4 x5 x6 s0 H locs ls hl hP hD hS hf
    rw [bk_M_go_113] at hf
    refine lv_istore (lv' := [(7, .int s0), (0, .ref oM), (1, .int a1), (2, .int a2), (3, .int a3), (4, .int x4), (5, .int x5), (6, .int x6)]) hx hb dd_M_go_113 hl (by decide) rfl (fun ls hl => ?_)
    refine lv_aload_n hx hb dd_M_go_115 rfl (lv_at hl 1 rfl) ?_
    refine va_get (D := (dC, dI)) (ci := 5) (v := .ref obd) (C := RR_M) (T := FF_M) (N := 20) hx hb hts uu_M hown hK hP 0 rfl rfl 2 (by decide) (hts _ mm_209) (fun _ h9 => h9) rfl dd_M_go_116 ?_
    refine lv_iload_n hx hb dd_M_go_119 rfl (lv_at hl 2 rfl) ?_
    refine lv_iload_n hx hb dd_M_go_120 rfl (lv_at hl 3 rfl) ?_
    refine lv_iadd hx hb dd_M_go_121 ?_
    refine lv_iconst (v := 2) hx hb dd_M_go_122 (by decide) ?_
    refine lv_idiv hx hb dd_M_go_123 (by decide) ?_
    refine lv_aload_n hx hb dd_M_go_124 rfl (lv_at hl 1 rfl) ?_
    refine va_get (D := (dC, dI)) (ci := 5) (v := .ref obd) (C := RR_M) (T := FF_M) (N := 20) hx hb hts uu_M hown hK hP 0 rfl rfl 2 (by decide) (hts _ mm_209) (fun _ h9 => h9) rfl dd_M_go_125 ?_
    refine lv_iload hx hb dd_M_go_128 (lv_at hl 0 rfl) ?_
    obtain ⟨hi7001, hf⟩ := qq_ckE hf
    refine va_iald (D := (dC, dI)) (f := bd) (n := 64) (cA := cI) hx hb hK hP 1 0 rfl rfl (qq_inE hi7001) dd_M_go_130 ?_
    obtain ⟨hi7002, hf⟩ := qq_ckE hf
    refine va_iast (D := (dC, dI)) (f := bd) (n := 64) (cA := cI) hx hb hK hP hD hS 1 0 rfl rfl (qq_inE hi7002) dd_M_go_131 (fun H locs hP hD hS => ?_)
    obtain ⟨bd_7003, ebd_7003⟩ : ∃ z, z = upd bd ((a1 + a2) / 2).toNatClampNeg (bd s0.toNatClampNeg) := ⟨_, rfl⟩
    replace hf := qq_lt ebd_7003 hf
    have hP : va_P (dC, dI) classes [(oM, .inr (5, [.int mth, .int mpl, .ref obd, .int msd, .int mrt, .int mps, .int mqt, .int mmd, .ref opa, .ref opS, .ref opR, .ref opG, .ref opP, .ref opQ, .ref okp, .ref okS, .ref okR, .ref okP, .ref okQ, .ref oli])), (obd, .inl (cI, 64, .inl bd_7003)), (opa, .inl (cI, 9664, .inl pa)), (opS, .inl (cI, 151, .inl pS)), (opR, .inl (cI, 151, .inl pR)), (opG, .inl (cI, 151, .inl pG)), (opP, .inl (cI, 151, .inl pP)), (opQ, .inl (cI, 151, .inl pQ)), (okp, .inl (cI, 256, .inl kp)), (okS, .inl (cI, 4, .inl kS)), (okR, .inl (cI, 4, .inl kR)), (okP, .inl (cI, 4, .inl kP)), (okQ, .inl (cI, 4, .inl kQ)), (oli, .inl (cI, 1320, .inl li))] H := by rw [ebd_7003]; exact hP
    have hD : va_D A [(oM, .inr (5, [.int mth, .int mpl, .ref obd, .int msd, .int mrt, .int mps, .int mqt, .int mmd, .ref opa, .ref opS, .ref opR, .ref opG, .ref opP, .ref opQ, .ref okp, .ref okS, .ref okR, .ref okP, .ref okQ, .ref oli])), (obd, .inl (cI, 64, .inl bd_7003)), (opa, .inl (cI, 9664, .inl pa)), (opS, .inl (cI, 151, .inl pS)), (opR, .inl (cI, 151, .inl pR)), (opG, .inl (cI, 151, .inl pG)), (opP, .inl (cI, 151, .inl pP)), (opQ, .inl (cI, 151, .inl pQ)), (okp, .inl (cI, 256, .inl kp)), (okS, .inl (cI, 4, .inl kS)), (okR, .inl (cI, 4, .inl kR)), (okP, .inl (cI, 4, .inl kP)), (okQ, .inl (cI, 4, .inl kQ)), (oli, .inl (cI, 1320, .inl li))] := by rw [ebd_7003]; exact hD
    refine lv_aload_n hx hb dd_M_go_132 rfl (lv_at hl 1 rfl) ?_
    refine va_get (D := (dC, dI)) (ci := 5) (v := .ref obd) (C := RR_M) (T := FF_M) (N := 20) hx hb hts uu_M hown hK hP 0 rfl rfl 2 (by decide) (hts _ mm_209) (fun _ h9 => h9) rfl dd_M_go_133 ?_
    refine lv_iload hx hb dd_M_go_136 (lv_at hl 0 rfl) ?_
    refine lv_iconst (v := 0) hx hb dd_M_go_138 (by decide) ?_
    obtain ⟨hi7004, hf⟩ := qq_ckE hf
    refine va_iast (D := (dC, dI)) (f := bd_7003) (n := 64) (cA := cI) hx hb hK hP hD hS 1 0 rfl rfl (qq_inE hi7004) dd_M_go_139 (fun H locs hP hD hS => ?_)
    obtain ⟨bd_7005, ebd_7005⟩ : ∃ z, z = upd bd_7003 s0.toNatClampNeg 0 := ⟨_, rfl⟩
    replace hf := qq_lt ebd_7005 hf
    have hP : va_P (dC, dI) classes [(oM, .inr (5, [.int mth, .int mpl, .ref obd, .int msd, .int mrt, .int mps, .int mqt, .int mmd, .ref opa, .ref opS, .ref opR, .ref opG, .ref opP, .ref opQ, .ref okp, .ref okS, .ref okR, .ref okP, .ref okQ, .ref oli])), (obd, .inl (cI, 64, .inl bd_7005)), (opa, .inl (cI, 9664, .inl pa)), (opS, .inl (cI, 151, .inl pS)), (opR, .inl (cI, 151, .inl pR)), (opG, .inl (cI, 151, .inl pG)), (opP, .inl (cI, 151, .inl pP)), (opQ, .inl (cI, 151, .inl pQ)), (okp, .inl (cI, 256, .inl kp)), (okS, .inl (cI, 4, .inl kS)), (okR, .inl (cI, 4, .inl kR)), (okP, .inl (cI, 4, .inl kP)), (okQ, .inl (cI, 4, .inl kQ)), (oli, .inl (cI, 1320, .inl li))] H := by rw [ebd_7005]; exact hP
    have hD : va_D A [(oM, .inr (5, [.int mth, .int mpl, .ref obd, .int msd, .int mrt, .int mps, .int mqt, .int mmd, .ref opa, .ref opS, .ref opR, .ref opG, .ref opP, .ref opQ, .ref okp, .ref okS, .ref okR, .ref okP, .ref okQ, .ref oli])), (obd, .inl (cI, 64, .inl bd_7005)), (opa, .inl (cI, 9664, .inl pa)), (opS, .inl (cI, 151, .inl pS)), (opR, .inl (cI, 151, .inl pR)), (opG, .inl (cI, 151, .inl pG)), (opP, .inl (cI, 151, .inl pP)), (opQ, .inl (cI, 151, .inl pQ)), (okp, .inl (cI, 256, .inl kp)), (okS, .inl (cI, 4, .inl kS)), (okR, .inl (cI, 4, .inl kR)), (okP, .inl (cI, 4, .inl kP)), (okQ, .inl (cI, 4, .inl kQ)), (oli, .inl (cI, 1320, .inl li))] := by rw [ebd_7005]; exact hD
    exact hJ140 msd mrt mps mqt bd_7005 x4 x5 x6 _ _ _ (lv_sub hl [1, 2, 3, 4, 5, 6, 7] rfl) hP hD hS hf
  have hJ79 : ∀ (msd : Int32) (mrt : Int32) (mps : Int32) (mqt : Int32) (bd : Nat → Int32) (x4 : Int32) (x5 : Int32) (x6 : Int32) (H : Heap) (locs : List Loc) (ls : Array Slot), lv_has ls 8 [(0, .ref oM), (1, .int a1), (2, .int a2), (3, .int a3), (4, .int x4), (5, .int x5), (6, .int x6)] → va_P (dC, dI) classes [(oM, .inr (5, [.int mth, .int mpl, .ref obd, .int msd, .int mrt, .int mps, .int mqt, .int mmd, .ref opa, .ref opS, .ref opR, .ref opG, .ref opP, .ref opQ, .ref okp, .ref okS, .ref okR, .ref okP, .ref okQ, .ref oli])), (obd, .inl (cI, 64, .inl bd)), (opa, .inl (cI, 9664, .inl pa)), (opS, .inl (cI, 151, .inl pS)), (opR, .inl (cI, 151, .inl pR)), (opG, .inl (cI, 151, .inl pG)), (opP, .inl (cI, 151, .inl pP)), (opQ, .inl (cI, 151, .inl pQ)), (okp, .inl (cI, 256, .inl kp)), (okS, .inl (cI, 4, .inl kS)), (okR, .inl (cI, 4, .inl kR)), (okP, .inl (cI, 4, .inl kP)), (okQ, .inl (cI, 4, .inl kQ)), (oli, .inl (cI, 1320, .inl li))] H → va_D A [(oM, .inr (5, [.int mth, .int mpl, .ref obd, .int msd, .int mrt, .int mps, .int mqt, .int mmd, .ref opa, .ref opS, .ref opR, .ref opG, .ref opP, .ref opQ, .ref okp, .ref okS, .ref okR, .ref okP, .ref okQ, .ref oli])), (obd, .inl (cI, 64, .inl bd)), (opa, .inl (cI, 9664, .inl pa)), (opS, .inl (cI, 151, .inl pS)), (opR, .inl (cI, 151, .inl pR)), (opG, .inl (cI, 151, .inl pG)), (opP, .inl (cI, 151, .inl pP)), (opQ, .inl (cI, 151, .inl pQ)), (okp, .inl (cI, 256, .inl kp)), (okS, .inl (cI, 4, .inl kS)), (okR, .inl (cI, 4, .inl kR)), (okP, .inl (cI, 4, .inl kP)), (okQ, .inl (cI, 4, .inl kQ)), (oli, .inl (cI, 1320, .inl li))] → va_S A s.heap H locs → bk_M_go_79 a1 a2 a3 msd mrt mps mqt bd x4 x5 x6 = some (msd', mrt', mps', mqt', bd') → W p l e rm_M_go s m ([.ref oM, .int a1, .int a2, .int a3] : List Value).toArray below meth c H locs 0 0 Q (F0 m 79 ls []) := by
    intro msd mrt mps mqt bd x4 x5 x6 H locs ls hl hP hD hS hf
    rw [bk_M_go_79] at hf
    refine lv_iload hx hb dd_M_go_79 (lv_at hl 4 rfl) ?_
    obtain ⟨r8001, hy8001, hf⟩ := qq_bd hf
    refine qq_S (As := [.int x4]) (rest := []) (wr := [(oM, .inr (5, [.int mth, .int mpl, .ref obd, .int msd, .int mrt, .int mps, .int mqt, .int mmd, .ref opa, .ref opS, .ref opR, .ref opG, .ref opP, .ref opQ, .ref okp, .ref okS, .ref okR, .ref okP, .ref okQ, .ref oli])), (obd, .inl (cI, 64, .inl bd)), (opa, .inl (cI, 9664, .inl pa)), (opS, .inl (cI, 151, .inl pS)), (opR, .inl (cI, 151, .inl pR)), (opG, .inl (cI, 151, .inl pG)), (opP, .inl (cI, 151, .inl pP)), (opQ, .inl (cI, 151, .inl pQ)), (okp, .inl (cI, 256, .inl kp)), (okS, .inl (cI, 4, .inl kS)), (okR, .inl (cI, 4, .inl kR)), (okP, .inl (cI, 4, .inl kP)), (okQ, .inl (cI, 4, .inl kQ)), (oli, .inl (cI, 1320, .inl li))]) (wf := [(oM, .inr (5, [.int mth, .int mpl, .ref obd, .int msd, .int mrt, .int mps, .int mqt, .int mmd, .ref opa, .ref opS, .ref opR, .ref opG, .ref opP, .ref opQ, .ref okp, .ref okS, .ref okR, .ref okP, .ref okQ, .ref oli])), (obd, .inl (cI, 64, .inl bd)), (opa, .inl (cI, 9664, .inl pa)), (opS, .inl (cI, 151, .inl pS)), (opR, .inl (cI, 151, .inl pR)), (opG, .inl (cI, 151, .inl pG)), (opP, .inl (cI, 151, .inl pP)), (opQ, .inl (cI, 151, .inl pQ)), (okp, .inl (cI, 256, .inl kp)), (okS, .inl (cI, 4, .inl kS)), (okR, .inl (cI, 4, .inl kR)), (okP, .inl (cI, 4, .inl kP)), (okQ, .inl (cI, 4, .inl kQ)), (oli, .inl (cI, 1320, .inl li))]) ⟨hx, hb, hml, hown, hts⟩ (ct_M_kindOf l dC dI cI cL cR x4 hy8001) mm_222 mm_223 mm_221 mm_211 hd_M_kindOf (by decide) qq_00 hP hD hK hS hA hT hN [] [0, 1, 2, 3, 4, 5, 6, 7, 8, 9, 10, 11, 12, 13] [0, 1, 2, 3, 4, 5, 6, 7, 8, 9, 10, 11, 12, 13] rfl rfl rfl (by decide) rfl hl.1 rfl (Nat.le_of_ble_eq_true rfl) dd_M_go_81 (fun H locs hP hD hS => ?_)
    refine W.eq (g2 := F0 m 84 ls [.int r8001]) rfl ?_
    refine lv_bipush (v := 6) hx hb dd_M_go_84 (by decide) ?_
    refine lv_icmp_ne (tgt := 140) hx hb dd_M_go_86 (by decide) (fun hc => ?_) (fun hc => ?_)
    · replace hf := qq_f hc hf
      exact hJ140 msd mrt mps mqt bd x4 x5 x6 _ _ _ (lv_sub hl [0, 1, 2, 3, 4, 5, 6] rfl) hP hD hS hf
    · replace hf := qq_t hc hf
      refine lv_iload_n hx hb dd_M_go_89 rfl (lv_at hl 2 rfl) ?_
      refine lv_iload_n hx hb dd_M_go_90 rfl (lv_at hl 1 rfl) ?_
      refine lv_isub hx hb dd_M_go_91 ?_
      obtain ⟨r8002, hy8002, hf⟩ := qq_bd hf
      refine qq_S (As := [.int (a2 - a1)]) (rest := []) (wr := [(oM, .inr (5, [.int mth, .int mpl, .ref obd, .int msd, .int mrt, .int mps, .int mqt, .int mmd, .ref opa, .ref opS, .ref opR, .ref opG, .ref opP, .ref opQ, .ref okp, .ref okS, .ref okR, .ref okP, .ref okQ, .ref oli])), (obd, .inl (cI, 64, .inl bd)), (opa, .inl (cI, 9664, .inl pa)), (opS, .inl (cI, 151, .inl pS)), (opR, .inl (cI, 151, .inl pR)), (opG, .inl (cI, 151, .inl pG)), (opP, .inl (cI, 151, .inl pP)), (opQ, .inl (cI, 151, .inl pQ)), (okp, .inl (cI, 256, .inl kp)), (okS, .inl (cI, 4, .inl kS)), (okR, .inl (cI, 4, .inl kR)), (okP, .inl (cI, 4, .inl kP)), (okQ, .inl (cI, 4, .inl kQ)), (oli, .inl (cI, 1320, .inl li))]) (wf := [(oM, .inr (5, [.int mth, .int mpl, .ref obd, .int msd, .int mrt, .int mps, .int mqt, .int mmd, .ref opa, .ref opS, .ref opR, .ref opG, .ref opP, .ref opQ, .ref okp, .ref okS, .ref okR, .ref okP, .ref okQ, .ref oli])), (obd, .inl (cI, 64, .inl bd)), (opa, .inl (cI, 9664, .inl pa)), (opS, .inl (cI, 151, .inl pS)), (opR, .inl (cI, 151, .inl pR)), (opG, .inl (cI, 151, .inl pG)), (opP, .inl (cI, 151, .inl pP)), (opQ, .inl (cI, 151, .inl pQ)), (okp, .inl (cI, 256, .inl kp)), (okS, .inl (cI, 4, .inl kS)), (okR, .inl (cI, 4, .inl kR)), (okP, .inl (cI, 4, .inl kP)), (okQ, .inl (cI, 4, .inl kQ)), (oli, .inl (cI, 1320, .inl li))]) ⟨hx, hb, hml, hown, hts⟩ (ct_M_size l dC dI cI cL cR (a2 - a1) hy8002) mm_225 mm_226 mm_224 mm_211 hd_M_size (by decide) qq_00 hP hD hK hS hA hT hN [] [0, 1, 2, 3, 4, 5, 6, 7, 8, 9, 10, 11, 12, 13] [0, 1, 2, 3, 4, 5, 6, 7, 8, 9, 10, 11, 12, 13] rfl rfl rfl (by decide) rfl hl.1 rfl (Nat.le_of_ble_eq_true rfl) dd_M_go_92 (fun H locs hP hD hS => ?_)
      refine W.eq (g2 := F0 m 95 ls [.int r8002]) rfl ?_
      refine lv_iconst (v := 2) hx hb dd_M_go_95 (by decide) ?_
      refine lv_icmp_ne (tgt := 140) hx hb dd_M_go_96 (by decide) (fun hc => ?_) (fun hc => ?_)
      · replace hf := qq_f hc hf
        exact hJ140 msd mrt mps mqt bd x4 x5 x6 _ _ _ (lv_sub hl [0, 1, 2, 3, 4, 5, 6] rfl) hP hD hS hf
      · replace hf := qq_t hc hf
        refine lv_iload_n hx hb dd_M_go_99 rfl (lv_at hl 2 rfl) ?_
        refine lv_iload_n hx hb dd_M_go_100 rfl (lv_at hl 1 rfl) ?_
        refine lv_icmp_le (tgt := 110) hx hb dd_M_go_101 (by decide) (fun hc => ?_) (fun hc => ?_)
        · replace hf := qq_t hc hf
          refine lv_iload_n hx hb dd_M_go_110 rfl (lv_at hl 2 rfl) ?_
          refine lv_iconst (v := 2) hx hb dd_M_go_111 (by decide) ?_
          refine lv_isub hx hb dd_M_go_112 ?_
          exact hJ113 msd mrt mps mqt bd x4 x5 x6 (a2 - 2) _ _ _ (lv_sub hl [0, 1, 2, 3, 4, 5, 6] rfl) hP hD hS hf
        · replace hf := qq_f hc hf
          refine lv_iload_n hx hb dd_M_go_104 rfl (lv_at hl 2 rfl) ?_
          refine lv_iconst (v := 1) hx hb dd_M_go_105 (by decide) ?_
          refine lv_iadd hx hb dd_M_go_106 ?_
          refine lv_goto (tgt := 113) hx hb dd_M_go_107 (by decide) ?_
          exact hJ113 msd mrt mps mqt bd x4 x5 x6 (a2 + 1) _ _ _ (lv_sub hl [0, 1, 2, 3, 4, 5, 6] rfl) hP hD hS hf
  have hJ38 : ∀ (msd : Int32) (mrt : Int32) (mps : Int32) (mqt : Int32) (bd : Nat → Int32) (x4 : Int32) (x5 : Int32) (s0 : Int32) (H : Heap) (locs : List Loc) (ls : Array Slot), lv_has ls 8 [(0, .ref oM), (1, .int a1), (2, .int a2), (3, .int a3), (4, .int x4), (5, .int x5)] → va_P (dC, dI) classes [(oM, .inr (5, [.int mth, .int mpl, .ref obd, .int msd, .int mrt, .int mps, .int mqt, .int mmd, .ref opa, .ref opS, .ref opR, .ref opG, .ref opP, .ref opQ, .ref okp, .ref okS, .ref okR, .ref okP, .ref okQ, .ref oli])), (obd, .inl (cI, 64, .inl bd)), (opa, .inl (cI, 9664, .inl pa)), (opS, .inl (cI, 151, .inl pS)), (opR, .inl (cI, 151, .inl pR)), (opG, .inl (cI, 151, .inl pG)), (opP, .inl (cI, 151, .inl pP)), (opQ, .inl (cI, 151, .inl pQ)), (okp, .inl (cI, 256, .inl kp)), (okS, .inl (cI, 4, .inl kS)), (okR, .inl (cI, 4, .inl kR)), (okP, .inl (cI, 4, .inl kP)), (okQ, .inl (cI, 4, .inl kQ)), (oli, .inl (cI, 1320, .inl li))] H → va_D A [(oM, .inr (5, [.int mth, .int mpl, .ref obd, .int msd, .int mrt, .int mps, .int mqt, .int mmd, .ref opa, .ref opS, .ref opR, .ref opG, .ref opP, .ref opQ, .ref okp, .ref okS, .ref okR, .ref okP, .ref okQ, .ref oli])), (obd, .inl (cI, 64, .inl bd)), (opa, .inl (cI, 9664, .inl pa)), (opS, .inl (cI, 151, .inl pS)), (opR, .inl (cI, 151, .inl pR)), (opG, .inl (cI, 151, .inl pG)), (opP, .inl (cI, 151, .inl pP)), (opQ, .inl (cI, 151, .inl pQ)), (okp, .inl (cI, 256, .inl kp)), (okS, .inl (cI, 4, .inl kS)), (okR, .inl (cI, 4, .inl kR)), (okP, .inl (cI, 4, .inl kP)), (okQ, .inl (cI, 4, .inl kQ)), (oli, .inl (cI, 1320, .inl li))] → va_S A s.heap H locs → bk_M_go_38 a1 a2 a3 msd mrt mps mqt bd x4 x5 s0 = some (msd', mrt', mps', mqt', bd') → W p l e rm_M_go s m ([.ref oM, .int a1, .int a2, .int a3] : List Value).toArray below meth c H locs 0 0 Q (F0 m 38 ls [.int s0]) := by
    intro msd mrt mps mqt bd x4 x5 s0 H locs ls hl hP hD hS hf
    rw [bk_M_go_38] at hf
    refine lv_istore (lv' := [(6, .int s0), (0, .ref oM), (1, .int a1), (2, .int a2), (3, .int a3), (4, .int x4), (5, .int x5)]) hx hb dd_M_go_38 hl (by decide) rfl (fun ls hl => ?_)
    refine lv_iload hx hb dd_M_go_40 (lv_at hl 6 rfl) ?_
    refine lv_if_eq (tgt := 79) hx hb dd_M_go_42 (by decide) (fun hc => ?_) (fun hc => ?_)
    · replace hf := qq_t hc hf
      exact hJ79 msd mrt mps mqt bd x4 x5 s0 _ _ _ (lv_sub hl [1, 2, 3, 4, 5, 6, 0] rfl) hP hD hS hf
    · replace hf := qq_f hc hf
      refine lv_iload_n hx hb dd_M_go_45 rfl (lv_at hl 2 rfl) ?_
      refine lv_bipush (v := 8) hx hb dd_M_go_46 (by decide) ?_
      refine lv_irem hx hb dd_M_go_48 (by decide) ?_
      refine lv_iload_n hx hb dd_M_go_49 rfl (lv_at hl 3 rfl) ?_
      refine lv_bipush (v := 8) hx hb dd_M_go_50 (by decide) ?_
      refine lv_irem hx hb dd_M_go_52 (by decide) ?_
      refine lv_icmp_eq (tgt := 79) hx hb dd_M_go_53 (by decide) (fun hc => ?_) (fun hc => ?_)
      · replace hf := qq_t hc hf
        exact hJ79 msd mrt mps mqt bd x4 x5 s0 _ _ _ (lv_sub hl [1, 2, 3, 4, 5, 6, 0] rfl) hP hD hS hf
      · replace hf := qq_f hc hf
        refine lv_iload hx hb dd_M_go_56 (lv_at hl 0 rfl) ?_
        refine lv_if_ne (tgt := 79) hx hb dd_M_go_58 (by decide) (fun hc => ?_) (fun hc => ?_)
        · replace hf := qq_f hc hf
          exact hJ79 msd mrt mps mqt bd x4 x5 s0 _ _ _ (lv_sub hl [1, 2, 3, 4, 5, 6, 0] rfl) hP hD hS hf
        · replace hf := qq_t hc hf
          refine lv_aload_n hx hb dd_M_go_61 rfl (lv_at hl 1 rfl) ?_
          refine va_get (D := (dC, dI)) (ci := 5) (v := .ref obd) (C := RR_M) (T := FF_M) (N := 20) hx hb hts uu_M hown hK hP 0 rfl rfl 2 (by decide) (hts _ mm_209) (fun _ h9 => h9) rfl dd_M_go_62 ?_
          refine lv_bipush (v := 8) hx hb dd_M_go_65 (by decide) ?_
          refine lv_iload_n hx hb dd_M_go_67 rfl (lv_at hl 2 rfl) ?_
          refine lv_bipush (v := 8) hx hb dd_M_go_68 (by decide) ?_
          refine lv_idiv hx hb dd_M_go_70 (by decide) ?_
          refine lv_imul hx hb dd_M_go_71 ?_
          refine lv_iload_n hx hb dd_M_go_72 rfl (lv_at hl 3 rfl) ?_
          refine lv_bipush (v := 8) hx hb dd_M_go_73 (by decide) ?_
          refine lv_irem hx hb dd_M_go_75 (by decide) ?_
          refine lv_iadd hx hb dd_M_go_76 ?_
          refine lv_iconst (v := 0) hx hb dd_M_go_77 (by decide) ?_
          obtain ⟨hi9001, hf⟩ := qq_ckE hf
          refine va_iast (D := (dC, dI)) (f := bd) (n := 64) (cA := cI) hx hb hK hP hD hS 1 0 rfl rfl (qq_inE hi9001) dd_M_go_78 (fun H locs hP hD hS => ?_)
          obtain ⟨bd_9002, ebd_9002⟩ : ∃ z, z = upd bd ((8 * (a1 / 8)) + (a2 - a2 / 8 * 8)).toNatClampNeg 0 := ⟨_, rfl⟩
          replace hf := qq_lt ebd_9002 hf
          have hP : va_P (dC, dI) classes [(oM, .inr (5, [.int mth, .int mpl, .ref obd, .int msd, .int mrt, .int mps, .int mqt, .int mmd, .ref opa, .ref opS, .ref opR, .ref opG, .ref opP, .ref opQ, .ref okp, .ref okS, .ref okR, .ref okP, .ref okQ, .ref oli])), (obd, .inl (cI, 64, .inl bd_9002)), (opa, .inl (cI, 9664, .inl pa)), (opS, .inl (cI, 151, .inl pS)), (opR, .inl (cI, 151, .inl pR)), (opG, .inl (cI, 151, .inl pG)), (opP, .inl (cI, 151, .inl pP)), (opQ, .inl (cI, 151, .inl pQ)), (okp, .inl (cI, 256, .inl kp)), (okS, .inl (cI, 4, .inl kS)), (okR, .inl (cI, 4, .inl kR)), (okP, .inl (cI, 4, .inl kP)), (okQ, .inl (cI, 4, .inl kQ)), (oli, .inl (cI, 1320, .inl li))] H := by rw [ebd_9002]; exact hP
          have hD : va_D A [(oM, .inr (5, [.int mth, .int mpl, .ref obd, .int msd, .int mrt, .int mps, .int mqt, .int mmd, .ref opa, .ref opS, .ref opR, .ref opG, .ref opP, .ref opQ, .ref okp, .ref okS, .ref okR, .ref okP, .ref okQ, .ref oli])), (obd, .inl (cI, 64, .inl bd_9002)), (opa, .inl (cI, 9664, .inl pa)), (opS, .inl (cI, 151, .inl pS)), (opR, .inl (cI, 151, .inl pR)), (opG, .inl (cI, 151, .inl pG)), (opP, .inl (cI, 151, .inl pP)), (opQ, .inl (cI, 151, .inl pQ)), (okp, .inl (cI, 256, .inl kp)), (okS, .inl (cI, 4, .inl kS)), (okR, .inl (cI, 4, .inl kR)), (okP, .inl (cI, 4, .inl kP)), (okQ, .inl (cI, 4, .inl kQ)), (oli, .inl (cI, 1320, .inl li))] := by rw [ebd_9002]; exact hD
          exact hJ79 msd mrt mps mqt bd_9002 x4 x5 s0 _ _ _ (lv_sub hl [1, 2, 3, 4, 5, 6, 0] rfl) hP hD hS hf
  have hJ22 : ∀ (msd : Int32) (mrt : Int32) (mps : Int32) (mqt : Int32) (bd : Nat → Int32) (x4 : Int32) (s0 : Int32) (H : Heap) (locs : List Loc) (ls : Array Slot), lv_has ls 8 [(0, .ref oM), (1, .int a1), (2, .int a2), (3, .int a3), (4, .int x4)] → va_P (dC, dI) classes [(oM, .inr (5, [.int mth, .int mpl, .ref obd, .int msd, .int mrt, .int mps, .int mqt, .int mmd, .ref opa, .ref opS, .ref opR, .ref opG, .ref opP, .ref opQ, .ref okp, .ref okS, .ref okR, .ref okP, .ref okQ, .ref oli])), (obd, .inl (cI, 64, .inl bd)), (opa, .inl (cI, 9664, .inl pa)), (opS, .inl (cI, 151, .inl pS)), (opR, .inl (cI, 151, .inl pR)), (opG, .inl (cI, 151, .inl pG)), (opP, .inl (cI, 151, .inl pP)), (opQ, .inl (cI, 151, .inl pQ)), (okp, .inl (cI, 256, .inl kp)), (okS, .inl (cI, 4, .inl kS)), (okR, .inl (cI, 4, .inl kR)), (okP, .inl (cI, 4, .inl kP)), (okQ, .inl (cI, 4, .inl kQ)), (oli, .inl (cI, 1320, .inl li))] H → va_D A [(oM, .inr (5, [.int mth, .int mpl, .ref obd, .int msd, .int mrt, .int mps, .int mqt, .int mmd, .ref opa, .ref opS, .ref opR, .ref opG, .ref opP, .ref opQ, .ref okp, .ref okS, .ref okR, .ref okP, .ref okQ, .ref oli])), (obd, .inl (cI, 64, .inl bd)), (opa, .inl (cI, 9664, .inl pa)), (opS, .inl (cI, 151, .inl pS)), (opR, .inl (cI, 151, .inl pR)), (opG, .inl (cI, 151, .inl pG)), (opP, .inl (cI, 151, .inl pP)), (opQ, .inl (cI, 151, .inl pQ)), (okp, .inl (cI, 256, .inl kp)), (okS, .inl (cI, 4, .inl kS)), (okR, .inl (cI, 4, .inl kR)), (okP, .inl (cI, 4, .inl kP)), (okQ, .inl (cI, 4, .inl kQ)), (oli, .inl (cI, 1320, .inl li))] → va_S A s.heap H locs → bk_M_go_22 a1 a2 a3 msd mrt mps mqt bd x4 s0 = some (msd', mrt', mps', mqt', bd') → W p l e rm_M_go s m ([.ref oM, .int a1, .int a2, .int a3] : List Value).toArray below meth c H locs 0 0 Q (F0 m 22 ls [.int s0]) := by
    intro msd mrt mps mqt bd x4 s0 H locs ls hl hP hD hS hf
    rw [bk_M_go_22] at hf
    refine lv_istore (lv' := [(5, .int s0), (0, .ref oM), (1, .int a1), (2, .int a2), (3, .int a3), (4, .int x4)]) hx hb dd_M_go_22 hl (by decide) rfl (fun ls hl => ?_)
    refine lv_aload_n hx hb dd_M_go_24 rfl (lv_at hl 1 rfl) ?_
    refine va_get (D := (dC, dI)) (ci := 5) (v := .ref obd) (C := RR_M) (T := FF_M) (N := 20) hx hb hts uu_M hown hK hP 0 rfl rfl 2 (by decide) (hts _ mm_209) (fun _ h9 => h9) rfl dd_M_go_25 ?_
    refine lv_iload_n hx hb dd_M_go_28 rfl (lv_at hl 3 rfl) ?_
    obtain ⟨hi10001, hf⟩ := qq_ckE hf
    refine va_iald (D := (dC, dI)) (f := bd) (n := 64) (cA := cI) hx hb hK hP 1 0 rfl rfl (qq_inE hi10001) dd_M_go_29 ?_
    refine lv_if_eq (tgt := 37) hx hb dd_M_go_30 (by decide) (fun hc => ?_) (fun hc => ?_)
    · replace hf := qq_t hc hf
      refine lv_iconst (v := 0) hx hb dd_M_go_37 (by decide) ?_
      exact hJ38 msd mrt mps mqt bd x4 s0 0 _ _ _ (lv_sub hl [1, 2, 3, 4, 5, 0] rfl) hP hD hS hf
    · replace hf := qq_f hc hf
      refine lv_iconst (v := 1) hx hb dd_M_go_33 (by decide) ?_
      refine lv_goto (tgt := 38) hx hb dd_M_go_34 (by decide) ?_
      exact hJ38 msd mrt mps mqt bd x4 s0 1 _ _ _ (lv_sub hl [1, 2, 3, 4, 5, 0] rfl) hP hD hS hf
  rw [fn_M_go] at hf
  refine lv_aload_n hx hb dd_M_go_0 rfl (lv_at hl 0 rfl) ?_
  refine va_get (D := (dC, dI)) (ci := 5) (v := .ref obd) (C := RR_M) (T := FF_M) (N := 20) hx hb hts uu_M hown hK hP 0 rfl rfl 2 (by decide) (hts _ mm_209) (fun _ h9 => h9) rfl dd_M_go_1 ?_
  refine lv_iload_n hx hb dd_M_go_4 rfl (lv_at hl 1 rfl) ?_
  obtain ⟨hi1, hf⟩ := qq_ckE hf
  refine va_iald (D := (dC, dI)) (f := bd) (n := 64) (cA := cI) hx hb hK hP 1 0 rfl rfl (qq_inE hi1) dd_M_go_5 ?_
  refine lv_topi (fun v2 ev2 => ?_)
  replace hf := qq_lt ev2 hf
  refine lv_istore (lv' := [(4, .int v2), (0, .ref oM), (1, .int a1), (2, .int a2), (3, .int a3)]) hx hb dd_M_go_6 hl (by decide) rfl (fun ls hl => ?_)
  refine lv_iload hx hb dd_M_go_8 (lv_at hl 0 rfl) ?_
  obtain ⟨r3, hy3, hf⟩ := qq_bd hf
  refine qq_S (As := [.int v2]) (rest := []) (wr := [(oM, .inr (5, [.int mth, .int mpl, .ref obd, .int msd, .int mrt, .int mps, .int mqt, .int mmd, .ref opa, .ref opS, .ref opR, .ref opG, .ref opP, .ref opQ, .ref okp, .ref okS, .ref okR, .ref okP, .ref okQ, .ref oli])), (obd, .inl (cI, 64, .inl bd)), (opa, .inl (cI, 9664, .inl pa)), (opS, .inl (cI, 151, .inl pS)), (opR, .inl (cI, 151, .inl pR)), (opG, .inl (cI, 151, .inl pG)), (opP, .inl (cI, 151, .inl pP)), (opQ, .inl (cI, 151, .inl pQ)), (okp, .inl (cI, 256, .inl kp)), (okS, .inl (cI, 4, .inl kS)), (okR, .inl (cI, 4, .inl kR)), (okP, .inl (cI, 4, .inl kP)), (okQ, .inl (cI, 4, .inl kQ)), (oli, .inl (cI, 1320, .inl li))]) (wf := [(oM, .inr (5, [.int mth, .int mpl, .ref obd, .int msd, .int mrt, .int mps, .int mqt, .int mmd, .ref opa, .ref opS, .ref opR, .ref opG, .ref opP, .ref opQ, .ref okp, .ref okS, .ref okR, .ref okP, .ref okQ, .ref oli])), (obd, .inl (cI, 64, .inl bd)), (opa, .inl (cI, 9664, .inl pa)), (opS, .inl (cI, 151, .inl pS)), (opR, .inl (cI, 151, .inl pR)), (opG, .inl (cI, 151, .inl pG)), (opP, .inl (cI, 151, .inl pP)), (opQ, .inl (cI, 151, .inl pQ)), (okp, .inl (cI, 256, .inl kp)), (okS, .inl (cI, 4, .inl kS)), (okR, .inl (cI, 4, .inl kR)), (okP, .inl (cI, 4, .inl kP)), (okQ, .inl (cI, 4, .inl kQ)), (oli, .inl (cI, 1320, .inl li))]) ⟨hx, hb, hml, hown, hts⟩ (ct_M_kindOf l dC dI cI cL cR v2 hy3) mm_222 mm_223 mm_221 mm_211 hd_M_kindOf (by decide) qq_00 hP hD hK hS hA hT hN [] [0, 1, 2, 3, 4, 5, 6, 7, 8, 9, 10, 11, 12, 13] [0, 1, 2, 3, 4, 5, 6, 7, 8, 9, 10, 11, 12, 13] rfl rfl rfl (by decide) rfl hl.1 rfl (Nat.le_of_ble_eq_true rfl) dd_M_go_10 (fun H locs hP hD hS => ?_)
  refine W.eq (g2 := F0 m 13 ls [.int r3]) rfl ?_
  refine lv_iconst (v := 1) hx hb dd_M_go_13 (by decide) ?_
  refine lv_icmp_ne (tgt := 21) hx hb dd_M_go_14 (by decide) (fun hc => ?_) (fun hc => ?_)
  · replace hf := qq_f hc hf
    refine lv_iconst (v := 0) hx hb dd_M_go_21 (by decide) ?_
    exact hJ22 msd mrt mps mqt bd v2 0 _ _ _ (lv_sub hl [1, 2, 3, 4, 0] rfl) hP hD hS hf
  · replace hf := qq_t hc hf
    refine lv_iconst (v := 1) hx hb dd_M_go_17 (by decide) ?_
    refine lv_goto (tgt := 22) hx hb dd_M_go_18 (by decide) ?_
    exact hJ22 msd mrt mps mqt bd v2 1 _ _ _ (lv_sub hl [1, 2, 3, 4, 0] rfl) hP hD hS hf
