theorem dd_M_anyMove_0 : decode bb_M_anyMove 0 = .ok (.iconst 0, 1) := by decide +kernel
theorem dd_M_anyMove_1 : decode bb_M_anyMove 1 = .ok (.istore_n 1, 1) := by decide +kernel
theorem dd_M_anyMove_2 : decode bb_M_anyMove 2 = .ok (.iload_n 1, 1) := by decide +kernel
theorem dd_M_anyMove_3 : decode bb_M_anyMove 3 = .ok (.bipush 64, 2) := by decide +kernel
theorem dd_M_anyMove_5 : decode bb_M_anyMove 5 = .ok (.if_icmp .ge 90, 3) := by decide +kernel
theorem dd_M_anyMove_8 : decode bb_M_anyMove 8 = .ok (.iconst 0, 1) := by decide +kernel
theorem dd_M_anyMove_9 : decode bb_M_anyMove 9 = .ok (.istore_n 2, 1) := by decide +kernel
theorem dd_M_anyMove_10 : decode bb_M_anyMove 10 = .ok (.iload_n 2, 1) := by decide +kernel
theorem dd_M_anyMove_11 : decode bb_M_anyMove 11 = .ok (.bipush 64, 2) := by decide +kernel
theorem dd_M_anyMove_13 : decode bb_M_anyMove 13 = .ok (.if_icmp .ge 76, 3) := by decide +kernel
theorem dd_M_anyMove_16 : decode bb_M_anyMove 16 = .ok (.aload_n 0, 1) := by decide +kernel
theorem dd_M_anyMove_17 : decode bb_M_anyMove 17 = .ok (.getfield 7, 3) := by decide +kernel
theorem dd_M_anyMove_20 : decode bb_M_anyMove 20 = .ok (.iload_n 1, 1) := by decide +kernel
theorem dd_M_anyMove_21 : decode bb_M_anyMove 21 = .ok (.iaload, 1) := by decide +kernel
theorem dd_M_anyMove_22 : decode bb_M_anyMove 22 = .ok (.aload_n 0, 1) := by decide +kernel
theorem dd_M_anyMove_23 : decode bb_M_anyMove 23 = .ok (.getfield 95, 3) := by decide +kernel
theorem dd_M_anyMove_26 : decode bb_M_anyMove 26 = .ok (.invokestatic 83, 3) := by decide +kernel
theorem dd_M_anyMove_29 : decode bb_M_anyMove 29 = .ok (.ifCond .eq 60, 3) := by decide +kernel
theorem dd_M_anyMove_32 : decode bb_M_anyMove 32 = .ok (.aload_n 0, 1) := by decide +kernel
theorem dd_M_anyMove_33 : decode bb_M_anyMove 33 = .ok (.getfield 7, 3) := by decide +kernel
theorem dd_M_anyMove_36 : decode bb_M_anyMove 36 = .ok (.iload_n 1, 1) := by decide +kernel
theorem dd_M_anyMove_37 : decode bb_M_anyMove 37 = .ok (.iaload, 1) := by decide +kernel
theorem dd_M_anyMove_38 : decode bb_M_anyMove 38 = .ok (.invokestatic 73, 3) := by decide +kernel
theorem dd_M_anyMove_41 : decode bb_M_anyMove 41 = .ok (.iconst 1, 1) := by decide +kernel
theorem dd_M_anyMove_42 : decode bb_M_anyMove 42 = .ok (.if_icmp .ne 19, 3) := by decide +kernel
theorem dd_M_anyMove_45 : decode bb_M_anyMove 45 = .ok (.iload_n 2, 1) := by decide +kernel
theorem dd_M_anyMove_46 : decode bb_M_anyMove 46 = .ok (.bipush 8, 2) := by decide +kernel
theorem dd_M_anyMove_48 : decode bb_M_anyMove 48 = .ok (.if_icmp .lt 9, 3) := by decide +kernel
theorem dd_M_anyMove_51 : decode bb_M_anyMove 51 = .ok (.iload_n 2, 1) := by decide +kernel
theorem dd_M_anyMove_52 : decode bb_M_anyMove 52 = .ok (.bipush 55, 2) := by decide +kernel
theorem dd_M_anyMove_54 : decode bb_M_anyMove 54 = .ok (.if_icmp .le 7, 3) := by decide +kernel
theorem dd_M_anyMove_57 : decode bb_M_anyMove 57 = .ok (.iconst 1, 1) := by decide +kernel
theorem dd_M_anyMove_58 : decode bb_M_anyMove 58 = .ok (.goto 4, 3) := by decide +kernel
theorem dd_M_anyMove_61 : decode bb_M_anyMove 61 = .ok (.iconst 0, 1) := by decide +kernel
theorem dd_M_anyMove_62 : decode bb_M_anyMove 62 = .ok (.istore_n 3, 1) := by decide +kernel
theorem dd_M_anyMove_63 : decode bb_M_anyMove 63 = .ok (.aload_n 0, 1) := by decide +kernel
theorem dd_M_anyMove_64 : decode bb_M_anyMove 64 = .ok (.iload_n 1, 1) := by decide +kernel
theorem dd_M_anyMove_65 : decode bb_M_anyMove 65 = .ok (.iload_n 2, 1) := by decide +kernel
theorem dd_M_anyMove_66 : decode bb_M_anyMove 66 = .ok (.iload_n 3, 1) := by decide +kernel
theorem dd_M_anyMove_67 : decode bb_M_anyMove 67 = .ok (.ifCond .eq 7, 3) := by decide +kernel
theorem dd_M_anyMove_70 : decode bb_M_anyMove 70 = .ok (.iconst 5, 1) := by decide +kernel
theorem dd_M_anyMove_71 : decode bb_M_anyMove 71 = .ok (.goto 4, 3) := by decide +kernel
theorem dd_M_anyMove_74 : decode bb_M_anyMove 74 = .ok (.iconst 0, 1) := by decide +kernel
theorem dd_M_anyMove_75 : decode bb_M_anyMove 75 = .ok (.invokevirtual 135, 3) := by decide +kernel
theorem dd_M_anyMove_78 : decode bb_M_anyMove 78 = .ok (.ifCond .eq 5, 3) := by decide +kernel
theorem dd_M_anyMove_81 : decode bb_M_anyMove 81 = .ok (.iconst 1, 1) := by decide +kernel
theorem dd_M_anyMove_82 : decode bb_M_anyMove 82 = .ok (.ireturn, 1) := by decide +kernel
theorem dd_M_anyMove_83 : decode bb_M_anyMove 83 = .ok (.iinc 2 1, 3) := by decide +kernel
theorem dd_M_anyMove_86 : decode bb_M_anyMove 86 = .ok (.goto (-76), 3) := by decide +kernel
theorem dd_M_anyMove_89 : decode bb_M_anyMove 89 = .ok (.iinc 1 1, 3) := by decide +kernel
theorem dd_M_anyMove_92 : decode bb_M_anyMove 92 = .ok (.goto (-90), 3) := by decide +kernel
theorem dd_M_anyMove_95 : decode bb_M_anyMove 95 = .ok (.iconst 0, 1) := by decide +kernel
theorem dd_M_anyMove_96 : decode bb_M_anyMove 96 = .ok (.ireturn, 1) := by decide +kernel
abbrev ty_M_anyMove : Type := Int32 × Int32 × Int32 × Int32 × Int32 × (Nat → Int32) × (Nat → Int32) × (Nat → Int32) × (Nat → Int32) × (Nat → Int32) × (Nat → Int32)
noncomputable def bk_M_anyMove_89 (k2 : Int32 → Int32 → Int32 → Int32 → (Nat → Int32) → (Nat → Int32) → (Nat → Int32) → (Nat → Int32) → (Nat → Int32) → (Nat → Int32) → Int32 → Option ty_M_anyMove) (msd : Int32) (mrt : Int32) (mps : Int32) (mqt : Int32) (bd : Nat → Int32) (kp : Nat → Int32) (kS : Nat → Int32) (kR : Nat → Int32) (kP : Nat → Int32) (kQ : Nat → Int32) (x1 : Int32) : Option ty_M_anyMove := qq_let (x1 + 1) fun v1001 => k2 msd mrt mps mqt bd kp kS kR kP kQ v1001
noncomputable def bk_M_anyMove_75 (k2 : Int32 → Int32 → Int32 → Int32 → (Nat → Int32) → (Nat → Int32) → (Nat → Int32) → (Nat → Int32) → (Nat → Int32) → (Nat → Int32) → Int32 → Option ty_M_anyMove) (k10 : Int32 → Int32 → Int32 → Int32 → (Nat → Int32) → (Nat → Int32) → (Nat → Int32) → (Nat → Int32) → (Nat → Int32) → (Nat → Int32) → Int32 → Int32 → Option ty_M_anyMove) (msd : Int32) (mrt : Int32) (mps : Int32) (mqt : Int32) (bd : Nat → Int32) (kp : Nat → Int32) (kS : Nat → Int32) (kR : Nat → Int32) (kP : Nat → Int32) (kQ : Nat → Int32) (x1 : Int32) (x2 : Int32) (s1 : Int32) (s2 : Int32) (s3 : Int32) : Option ty_M_anyMove := (fn_M_isMove msd mrt mps mqt bd kp kS kR kP kQ s1 s2 s3).bind fun (r2001, msd_2002, mrt_2003, mps_2004, mqt_2005, bd_2006, kp_2007, kS_2008, kR_2009, kP_2010, kQ_2011) => if r2001 = 0 then (qq_let (x2 + 1) fun v2012 => k10 msd_2002 mrt_2003 mps_2004 mqt_2005 bd_2006 kp_2007 kS_2008 kR_2009 kP_2010 kQ_2011 x1 v2012) else (some (1, msd_2002, mrt_2003, mps_2004, mqt_2005, bd_2006, kp_2007, kS_2008, kR_2009, kP_2010, kQ_2011))
noncomputable def bk_M_anyMove_62 (k2 : Int32 → Int32 → Int32 → Int32 → (Nat → Int32) → (Nat → Int32) → (Nat → Int32) → (Nat → Int32) → (Nat → Int32) → (Nat → Int32) → Int32 → Option ty_M_anyMove) (k10 : Int32 → Int32 → Int32 → Int32 → (Nat → Int32) → (Nat → Int32) → (Nat → Int32) → (Nat → Int32) → (Nat → Int32) → (Nat → Int32) → Int32 → Int32 → Option ty_M_anyMove) (msd : Int32) (mrt : Int32) (mps : Int32) (mqt : Int32) (bd : Nat → Int32) (kp : Nat → Int32) (kS : Nat → Int32) (kR : Nat → Int32) (kP : Nat → Int32) (kQ : Nat → Int32) (x1 : Int32) (x2 : Int32) (s0 : Int32) : Option ty_M_anyMove := if s0 = 0 then (bk_M_anyMove_75 k2 k10 msd mrt mps mqt bd kp kS kR kP kQ x1 x2 x1 x2 0) else (bk_M_anyMove_75 k2 k10 msd mrt mps mqt bd kp kS kR kP kQ x1 x2 x1 x2 5)
noncomputable def bk_M_anyMove_61 (k2 : Int32 → Int32 → Int32 → Int32 → (Nat → Int32) → (Nat → Int32) → (Nat → Int32) → (Nat → Int32) → (Nat → Int32) → (Nat → Int32) → Int32 → Option ty_M_anyMove) (k10 : Int32 → Int32 → Int32 → Int32 → (Nat → Int32) → (Nat → Int32) → (Nat → Int32) → (Nat → Int32) → (Nat → Int32) → (Nat → Int32) → Int32 → Int32 → Option ty_M_anyMove) (msd : Int32) (mrt : Int32) (mps : Int32) (mqt : Int32) (bd : Nat → Int32) (kp : Nat → Int32) (kS : Nat → Int32) (kR : Nat → Int32) (kP : Nat → Int32) (kQ : Nat → Int32) (x1 : Int32) (x2 : Int32) : Option ty_M_anyMove := bk_M_anyMove_62 k2 k10 msd mrt mps mqt bd kp kS kR kP kQ x1 x2 0
noncomputable def bk_M_anyMove_57 (k2 : Int32 → Int32 → Int32 → Int32 → (Nat → Int32) → (Nat → Int32) → (Nat → Int32) → (Nat → Int32) → (Nat → Int32) → (Nat → Int32) → Int32 → Option ty_M_anyMove) (k10 : Int32 → Int32 → Int32 → Int32 → (Nat → Int32) → (Nat → Int32) → (Nat → Int32) → (Nat → Int32) → (Nat → Int32) → (Nat → Int32) → Int32 → Int32 → Option ty_M_anyMove) (msd : Int32) (mrt : Int32) (mps : Int32) (mqt : Int32) (bd : Nat → Int32) (kp : Nat → Int32) (kS : Nat → Int32) (kR : Nat → Int32) (kP : Nat → Int32) (kQ : Nat → Int32) (x1 : Int32) (x2 : Int32) : Option ty_M_anyMove := bk_M_anyMove_62 k2 k10 msd mrt mps mqt bd kp kS kR kP kQ x1 x2 1
noncomputable def lo_M_anyMove_10 (k2 : Int32 → Int32 → Int32 → Int32 → (Nat → Int32) → (Nat → Int32) → (Nat → Int32) → (Nat → Int32) → (Nat → Int32) → (Nat → Int32) → Int32 → Option ty_M_anyMove) : Nat → Int32 → Int32 → Int32 → Int32 → (Nat → Int32) → (Nat → Int32) → (Nat → Int32) → (Nat → Int32) → (Nat → Int32) → (Nat → Int32) → Int32 → Int32 → Option ty_M_anyMove
  | 0, _, _, _, _, _, _, _, _, _, _, _, _ => none
  | n + 1, msd, mrt, mps, mqt, bd, kp, kS, kR, kP, kQ, x1, x2 => if 64 ≤ x2 then (bk_M_anyMove_89 k2 msd mrt mps mqt bd kp kS kR kP kQ x1) else (qq_ck (qq_in x1 64) <| (fn_M_isOf (bd x1.toNatClampNeg) msd).bind fun r6002 => if r6002 = 0 then (bk_M_anyMove_89 k2 msd mrt mps mqt bd kp kS kR kP kQ x1) else (qq_ck (qq_in x1 64) <| (fn_M_kindOf (bd x1.toNatClampNeg)).bind fun r6004 => if r6004 = 1 then (if x2 < 8 then (bk_M_anyMove_57 k2 (lo_M_anyMove_10 k2 n) msd mrt mps mqt bd kp kS kR kP kQ x1 x2) else (if x2 ≤ 55 then (bk_M_anyMove_61 k2 (lo_M_anyMove_10 k2 n) msd mrt mps mqt bd kp kS kR kP kQ x1 x2) else (bk_M_anyMove_57 k2 (lo_M_anyMove_10 k2 n) msd mrt mps mqt bd kp kS kR kP kQ x1 x2))) else (bk_M_anyMove_61 k2 (lo_M_anyMove_10 k2 n) msd mrt mps mqt bd kp kS kR kP kQ x1 x2)))
theorem lo_M_anyMove_10_z (k2 : Int32 → Int32 → Int32 → Int32 → (Nat → Int32) → (Nat → Int32) → (Nat → Int32) → (Nat → Int32) → (Nat → Int32) → (Nat → Int32) → Int32 → Option ty_M_anyMove) (msd : Int32) (mrt : Int32) (mps : Int32) (mqt : Int32) (bd : Nat → Int32) (kp : Nat → Int32) (kS : Nat → Int32) (kR : Nat → Int32) (kP : Nat → Int32) (kQ : Nat → Int32) (x1 : Int32) (x2 : Int32) : lo_M_anyMove_10 k2 0 msd mrt mps mqt bd kp kS kR kP kQ x1 x2 = none := rfl
theorem lo_M_anyMove_10_s (k2 : Int32 → Int32 → Int32 → Int32 → (Nat → Int32) → (Nat → Int32) → (Nat → Int32) → (Nat → Int32) → (Nat → Int32) → (Nat → Int32) → Int32 → Option ty_M_anyMove) (msd : Int32) (mrt : Int32) (mps : Int32) (mqt : Int32) (bd : Nat → Int32) (kp : Nat → Int32) (kS : Nat → Int32) (kR : Nat → Int32) (kP : Nat → Int32) (kQ : Nat → Int32) (x1 : Int32) (x2 : Int32) (n : Nat) : lo_M_anyMove_10 k2 (n + 1) msd mrt mps mqt bd kp kS kR kP kQ x1 x2 = (if 64 ≤ x2 then (bk_M_anyMove_89 k2 msd mrt mps mqt bd kp kS kR kP kQ x1) else (qq_ck (qq_in x1 64) <| (fn_M_isOf (bd x1.toNatClampNeg) msd).bind fun r6002 => if r6002 = 0 then (bk_M_anyMove_89 k2 msd mrt mps mqt bd kp kS kR kP kQ x1) else (qq_ck (qq_in x1 64) <| (fn_M_kindOf (bd x1.toNatClampNeg)).bind fun r6004 => if r6004 = 1 then (if x2 < 8 then (bk_M_anyMove_57 k2 (lo_M_anyMove_10 k2 n) msd mrt mps mqt bd kp kS kR kP kQ x1 x2) else (if x2 ≤ 55 then (bk_M_anyMove_61 k2 (lo_M_anyMove_10 k2 n) msd mrt mps mqt bd kp kS kR kP kQ x1 x2) else (bk_M_anyMove_57 k2 (lo_M_anyMove_10 k2 n) msd mrt mps mqt bd kp kS kR kP kQ x1 x2))) else (bk_M_anyMove_61 k2 (lo_M_anyMove_10 k2 n) msd mrt mps mqt bd kp kS kR kP kQ x1 x2)))) := rfl
noncomputable def lo_M_anyMove_2 : Nat → Int32 → Int32 → Int32 → Int32 → (Nat → Int32) → (Nat → Int32) → (Nat → Int32) → (Nat → Int32) → (Nat → Int32) → (Nat → Int32) → Int32 → Option ty_M_anyMove
  | 0, _, _, _, _, _, _, _, _, _, _, _ => none
  | n + 1, msd, mrt, mps, mqt, bd, kp, kS, kR, kP, kQ, x1 => if 64 ≤ x1 then (some (0, msd, mrt, mps, mqt, bd, kp, kS, kR, kP, kQ)) else (lo_M_anyMove_10 (lo_M_anyMove_2  n) qq_FU msd mrt mps mqt bd kp kS kR kP kQ x1 0)
theorem lo_M_anyMove_2_z (msd : Int32) (mrt : Int32) (mps : Int32) (mqt : Int32) (bd : Nat → Int32) (kp : Nat → Int32) (kS : Nat → Int32) (kR : Nat → Int32) (kP : Nat → Int32) (kQ : Nat → Int32) (x1 : Int32) : lo_M_anyMove_2  0 msd mrt mps mqt bd kp kS kR kP kQ x1 = none := rfl
theorem lo_M_anyMove_2_s (msd : Int32) (mrt : Int32) (mps : Int32) (mqt : Int32) (bd : Nat → Int32) (kp : Nat → Int32) (kS : Nat → Int32) (kR : Nat → Int32) (kP : Nat → Int32) (kQ : Nat → Int32) (x1 : Int32) (n : Nat) : lo_M_anyMove_2  (n + 1) msd mrt mps mqt bd kp kS kR kP kQ x1 = (if 64 ≤ x1 then (some (0, msd, mrt, mps, mqt, bd, kp, kS, kR, kP, kQ)) else (lo_M_anyMove_10 (lo_M_anyMove_2  n) qq_FU msd mrt mps mqt bd kp kS kR kP kQ x1 0)) := rfl
noncomputable def fn_M_anyMove (msd : Int32) (mrt : Int32) (mps : Int32) (mqt : Int32) (bd : Nat → Int32) (kp : Nat → Int32) (kS : Nat → Int32) (kR : Nat → Int32) (kP : Nat → Int32) (kQ : Nat → Int32) : Option ty_M_anyMove := lo_M_anyMove_2 qq_FU msd mrt mps mqt bd kp kS kR kP kQ 0
abbrev rm_M_anyMove : Room := { frames := 8, cells := 0, slots := 0, locals := 188 }
set_option maxHeartbeats 4000000 in
set_option maxRecDepth 100000 in
theorem ct_M_anyMove (l : Launch) (dC : Nat → ClassId) (dI : Nat → Nat → Nat) (cI cL cR : ClassId) (oM obd opa opS opR opG opP opQ okp okS okR okP okQ oli : Nat) (mth : Int32) (mpl : Int32) (msd : Int32) (mrt : Int32) (mps : Int32) (mqt : Int32) (mmd : Int32) (bd : Nat → Int32) (pa : Nat → Int32) (pS : Nat → Int32) (pR : Nat → Int32) (pG : Nat → Int32) (pP : Nat → Int32) (pQ : Nat → Int32) (kp : Nat → Int32) (kS : Nat → Int32) (kR : Nat → Int32) (kP : Nat → Int32) (kQ : Nat → Int32) (li : Nat → Int32) {rr : Int32} {msd' : Int32} {mrt' : Int32} {mps' : Int32} {mqt' : Int32} {bd' : Nat → Int32} {kp' : Nat → Int32} {kS' : Nat → Int32} {kR' : Nat → Int32} {kP' : Nat → Int32} {kQ' : Nat → Int32} (hf : fn_M_anyMove msd mrt mps mqt bd kp kS kR kP kQ = some (rr, msd', mrt', mps', mqt', bd', kp', kS', kR', kP', kQ')) : qq_det l yy_M_anyMove (ww_of yy_M_anyMove bb_M_anyMove 4 (some .boolean)) rm_M_anyMove (dC, dI) (qq_ty cI cL cR) [.ref oM] [(oM, .inr (5, [.int mth, .int mpl, .ref obd, .int msd, .int mrt, .int mps, .int mqt, .int mmd, .ref opa, .ref opS, .ref opR, .ref opG, .ref opP, .ref opQ, .ref okp, .ref okS, .ref okR, .ref okP, .ref okQ, .ref oli])), (obd, .inl (cI, 64, .inl bd)), (opa, .inl (cI, 9664, .inl pa)), (opS, .inl (cI, 151, .inl pS)), (opR, .inl (cI, 151, .inl pR)), (opG, .inl (cI, 151, .inl pG)), (opP, .inl (cI, 151, .inl pP)), (opQ, .inl (cI, 151, .inl pQ)), (okp, .inl (cI, 256, .inl kp)), (okS, .inl (cI, 4, .inl kS)), (okR, .inl (cI, 4, .inl kR)), (okP, .inl (cI, 4, .inl kP)), (okQ, .inl (cI, 4, .inl kQ)), (oli, .inl (cI, 1320, .inl li))] (some (.int rr)) [(oM, .inr (5, [.int mth, .int mpl, .ref obd, .int msd', .int mrt', .int mps', .int mqt', .int mmd, .ref opa, .ref opS, .ref opR, .ref opG, .ref opP, .ref opQ, .ref okp, .ref okS, .ref okR, .ref okP, .ref okQ, .ref oli])), (obd, .inl (cI, 64, .inl bd')), (opa, .inl (cI, 9664, .inl pa)), (opS, .inl (cI, 151, .inl pS)), (opR, .inl (cI, 151, .inl pR)), (opG, .inl (cI, 151, .inl pG)), (opP, .inl (cI, 151, .inl pP)), (opQ, .inl (cI, 151, .inl pQ)), (okp, .inl (cI, 256, .inl kp')), (okS, .inl (cI, 4, .inl kS')), (okR, .inl (cI, 4, .inl kR')), (okP, .inl (cI, 4, .inl kP')), (okQ, .inl (cI, 4, .inl kQ')), (oli, .inl (cI, 1320, .inl li))] := by
  refine qq_of (own := RR_M) (by decide) rfl (Nat.le_of_ble_eq_true rfl) ?_
  intro p e s m below meth c A Q ls hx hb hml hr hlocks hown hts hK hA hT hN hP hD hS hl hQ
  have hl : lv_has ls 4 [(0, .ref oM)] := hl
  have hL2 : ∀ (n2 : Nat) (msd : Int32) (mrt : Int32) (mps : Int32) (mqt : Int32) (bd : Nat → Int32) (kp : Nat → Int32) (kS : Nat → Int32) (kR : Nat → Int32) (kP : Nat → Int32) (kQ : Nat → Int32) (x1 : Int32) (H : Heap) (locs : List Loc) (ls : Array Slot), lv_has ls 4 [(0, .ref oM), (1, .int x1)] → va_P (dC, dI) classes [(oM, .inr (5, [.int mth, .int mpl, .ref obd, .int msd, .int mrt, .int mps, .int mqt, .int mmd, .ref opa, .ref opS, .ref opR, .ref opG, .ref opP, .ref opQ, .ref okp, .ref okS, .ref okR, .ref okP, .ref okQ, .ref oli])), (obd, .inl (cI, 64, .inl bd)), (opa, .inl (cI, 9664, .inl pa)), (opS, .inl (cI, 151, .inl pS)), (opR, .inl (cI, 151, .inl pR)), (opG, .inl (cI, 151, .inl pG)), (opP, .inl (cI, 151, .inl pP)), (opQ, .inl (cI, 151, .inl pQ)), (okp, .inl (cI, 256, .inl kp)), (okS, .inl (cI, 4, .inl kS)), (okR, .inl (cI, 4, .inl kR)), (okP, .inl (cI, 4, .inl kP)), (okQ, .inl (cI, 4, .inl kQ)), (oli, .inl (cI, 1320, .inl li))] H → va_D A [(oM, .inr (5, [.int mth, .int mpl, .ref obd, .int msd, .int mrt, .int mps, .int mqt, .int mmd, .ref opa, .ref opS, .ref opR, .ref opG, .ref opP, .ref opQ, .ref okp, .ref okS, .ref okR, .ref okP, .ref okQ, .ref oli])), (obd, .inl (cI, 64, .inl bd)), (opa, .inl (cI, 9664, .inl pa)), (opS, .inl (cI, 151, .inl pS)), (opR, .inl (cI, 151, .inl pR)), (opG, .inl (cI, 151, .inl pG)), (opP, .inl (cI, 151, .inl pP)), (opQ, .inl (cI, 151, .inl pQ)), (okp, .inl (cI, 256, .inl kp)), (okS, .inl (cI, 4, .inl kS)), (okR, .inl (cI, 4, .inl kR)), (okP, .inl (cI, 4, .inl kP)), (okQ, .inl (cI, 4, .inl kQ)), (oli, .inl (cI, 1320, .inl li))] → va_S A s.heap H locs → lo_M_anyMove_2 n2 msd mrt mps mqt bd kp kS kR kP kQ x1 = some (rr, msd', mrt', mps', mqt', bd', kp', kS', kR', kP', kQ') → W p l e rm_M_anyMove s m ([.ref oM] : List Value).toArray below meth c H locs 0 0 Q (F0 m 2 ls []) := by
    intro n2
    induction n2 with
    | zero => exact fun msd mrt mps mqt bd kp kS kR kP kQ x1 H locs ls hl hP hD hS hf => absurd hf (by rw [lo_M_anyMove_2_z]; exact fun h => by cases h)
    | succ n2 ih2 =>
      have hJ89 : ∀ (msd : Int32) (mrt : Int32) (mps : Int32) (mqt : Int32) (bd : Nat → Int32) (kp : Nat → Int32) (kS : Nat → Int32) (kR : Nat → Int32) (kP : Nat → Int32) (kQ : Nat → Int32) (x1 : Int32) (H : Heap) (locs : List Loc) (ls : Array Slot), lv_has ls 4 [(0, .ref oM), (1, .int x1)] → va_P (dC, dI) classes [(oM, .inr (5, [.int mth, .int mpl, .ref obd, .int msd, .int mrt, .int mps, .int mqt, .int mmd, .ref opa, .ref opS, .ref opR, .ref opG, .ref opP, .ref opQ, .ref okp, .ref okS, .ref okR, .ref okP, .ref okQ, .ref oli])), (obd, .inl (cI, 64, .inl bd)), (opa, .inl (cI, 9664, .inl pa)), (opS, .inl (cI, 151, .inl pS)), (opR, .inl (cI, 151, .inl pR)), (opG, .inl (cI, 151, .inl pG)), (opP, .inl (cI, 151, .inl pP)), (opQ, .inl (cI, 151, .inl pQ)), (okp, .inl (cI, 256, .inl kp)), (okS, .inl (cI, 4, .inl kS)), (okR, .inl (cI, 4, .inl kR)), (okP, .inl (cI, 4, .inl kP)), (okQ, .inl (cI, 4, .inl kQ)), (oli, .inl (cI, 1320, .inl li))] H → va_D A [(oM, .inr (5, [.int mth, .int mpl, .ref obd, .int msd, .int mrt, .int mps, .int mqt, .int mmd, .ref opa, .ref opS, .ref opR, .ref opG, .ref opP, .ref opQ, .ref okp, .ref okS, .ref okR, .ref okP, .ref okQ, .ref oli])), (obd, .inl (cI, 64, .inl bd)), (opa, .inl (cI, 9664, .inl pa)), (opS, .inl (cI, 151, .inl pS)), (opR, .inl (cI, 151, .inl pR)), (opG, .inl (cI, 151, .inl pG)), (opP, .inl (cI, 151, .inl pP)), (opQ, .inl (cI, 151, .inl pQ)), (okp, .inl (cI, 256, .inl kp)), (okS, .inl (cI, 4, .inl kS)), (okR, .inl (cI, 4, .inl kR)), (okP, .inl (cI, 4, .inl kP)), (okQ, .inl (cI, 4, .inl kQ)), (oli, .inl (cI, 1320, .inl li))] → va_S A s.heap H locs → bk_M_anyMove_89 (lo_M_anyMove_2 n2) msd mrt mps mqt bd kp kS kR kP kQ x1 = some (rr, msd', mrt', mps', mqt', bd', kp', kS', kR', kP', kQ') → W p l e rm_M_anyMove s m ([.ref oM] : List Value).toArray below meth c H locs 0 0 Q (F0 m 89 ls []) := by
        intro msd mrt mps mqt bd kp kS kR kP kQ x1 H locs ls hl hP hD hS hf
        rw [bk_M_anyMove_89] at hf
        obtain ⟨v1001, ev1001⟩ : ∃ z, z = x1 + 1 := ⟨_, rfl⟩
        replace hf := qq_lt ev1001 hf
        refine lv_iinc (k := 1) (v := v1001) (lv' := [(1, .int v1001), (0, .ref oM)]) hx hb dd_M_anyMove_89 hl rfl (by rw [ev1001]; exact congrArg _ (by decide)) (by decide) rfl (fun ls hl => ?_)
        refine lv_goto (tgt := 2) hx hb dd_M_anyMove_92 (by decide) ?_
        exact ih2 msd mrt mps mqt bd kp kS kR kP kQ v1001 _ _ _ (lv_sub hl [1, 0] rfl) hP hD hS hf
      have hL10 : ∀ (n10 : Nat) (msd : Int32) (mrt : Int32) (mps : Int32) (mqt : Int32) (bd : Nat → Int32) (kp : Nat → Int32) (kS : Nat → Int32) (kR : Nat → Int32) (kP : Nat → Int32) (kQ : Nat → Int32) (x1 : Int32) (x2 : Int32) (H : Heap) (locs : List Loc) (ls : Array Slot), lv_has ls 4 [(0, .ref oM), (1, .int x1), (2, .int x2)] → va_P (dC, dI) classes [(oM, .inr (5, [.int mth, .int mpl, .ref obd, .int msd, .int mrt, .int mps, .int mqt, .int mmd, .ref opa, .ref opS, .ref opR, .ref opG, .ref opP, .ref opQ, .ref okp, .ref okS, .ref okR, .ref okP, .ref okQ, .ref oli])), (obd, .inl (cI, 64, .inl bd)), (opa, .inl (cI, 9664, .inl pa)), (opS, .inl (cI, 151, .inl pS)), (opR, .inl (cI, 151, .inl pR)), (opG, .inl (cI, 151, .inl pG)), (opP, .inl (cI, 151, .inl pP)), (opQ, .inl (cI, 151, .inl pQ)), (okp, .inl (cI, 256, .inl kp)), (okS, .inl (cI, 4, .inl kS)), (okR, .inl (cI, 4, .inl kR)), (okP, .inl (cI, 4, .inl kP)), (okQ, .inl (cI, 4, .inl kQ)), (oli, .inl (cI, 1320, .inl li))] H → va_D A [(oM, .inr (5, [.int mth, .int mpl, .ref obd, .int msd, .int mrt, .int mps, .int mqt, .int mmd, .ref opa, .ref opS, .ref opR, .ref opG, .ref opP, .ref opQ, .ref okp, .ref okS, .ref okR, .ref okP, .ref okQ, .ref oli])), (obd, .inl (cI, 64, .inl bd)), (opa, .inl (cI, 9664, .inl pa)), (opS, .inl (cI, 151, .inl pS)), (opR, .inl (cI, 151, .inl pR)), (opG, .inl (cI, 151, .inl pG)), (opP, .inl (cI, 151, .inl pP)), (opQ, .inl (cI, 151, .inl pQ)), (okp, .inl (cI, 256, .inl kp)), (okS, .inl (cI, 4, .inl kS)), (okR, .inl (cI, 4, .inl kR)), (okP, .inl (cI, 4, .inl kP)), (okQ, .inl (cI, 4, .inl kQ)), (oli, .inl (cI, 1320, .inl li))] → va_S A s.heap H locs → lo_M_anyMove_10 (lo_M_anyMove_2 n2) n10 msd mrt mps mqt bd kp kS kR kP kQ x1 x2 = some (rr, msd', mrt', mps', mqt', bd', kp', kS', kR', kP', kQ') → W p l e rm_M_anyMove s m ([.ref oM] : List Value).toArray below meth c H locs 0 0 Q (F0 m 10 ls []) := by
        intro n10
        induction n10 with
        | zero => exact fun msd mrt mps mqt bd kp kS kR kP kQ x1 x2 H locs ls hl hP hD hS hf => absurd hf (by rw [lo_M_anyMove_10_z]; exact fun h => by cases h)
        | succ n10 ih10 =>
          have hJ75 : ∀ (msd : Int32) (mrt : Int32) (mps : Int32) (mqt : Int32) (bd : Nat → Int32) (kp : Nat → Int32) (kS : Nat → Int32) (kR : Nat → Int32) (kP : Nat → Int32) (kQ : Nat → Int32) (x1 : Int32) (x2 : Int32) (s1 : Int32) (s2 : Int32) (s3 : Int32) (H : Heap) (locs : List Loc) (ls : Array Slot), lv_has ls 4 [(0, .ref oM), (1, .int x1), (2, .int x2)] → va_P (dC, dI) classes [(oM, .inr (5, [.int mth, .int mpl, .ref obd, .int msd, .int mrt, .int mps, .int mqt, .int mmd, .ref opa, .ref opS, .ref opR, .ref opG, .ref opP, .ref opQ, .ref okp, .ref okS, .ref okR, .ref okP, .ref okQ, .ref oli])), (obd, .inl (cI, 64, .inl bd)), (opa, .inl (cI, 9664, .inl pa)), (opS, .inl (cI, 151, .inl pS)), (opR, .inl (cI, 151, .inl pR)), (opG, .inl (cI, 151, .inl pG)), (opP, .inl (cI, 151, .inl pP)), (opQ, .inl (cI, 151, .inl pQ)), (okp, .inl (cI, 256, .inl kp)), (okS, .inl (cI, 4, .inl kS)), (okR, .inl (cI, 4, .inl kR)), (okP, .inl (cI, 4, .inl kP)), (okQ, .inl (cI, 4, .inl kQ)), (oli, .inl (cI, 1320, .inl li))] H → va_D A [(oM, .inr (5, [.int mth, .int mpl, .ref obd, .int msd, .int mrt, .int mps, .int mqt, .int mmd, .ref opa, .ref opS, .ref opR, .ref opG, .ref opP, .ref opQ, .ref okp, .ref okS, .ref okR, .ref okP, .ref okQ, .ref oli])), (obd, .inl (cI, 64, .inl bd)), (opa, .inl (cI, 9664, .inl pa)), (opS, .inl (cI, 151, .inl pS)), (opR, .inl (cI, 151, .inl pR)), (opG, .inl (cI, 151, .inl pG)), (opP, .inl (cI, 151, .inl pP)), (opQ, .inl (cI, 151, .inl pQ)), (okp, .inl (cI, 256, .inl kp)), (okS, .inl (cI, 4, .inl kS)), (okR, .inl (cI, 4, .inl kR)), (okP, .inl (cI, 4, .inl kP)), (okQ, .inl (cI, 4, .inl kQ)), (oli, .inl (cI, 1320, .inl li))] → va_S A s.heap H locs → bk_M_anyMove_75 (lo_M_anyMove_2 n2) (lo_M_anyMove_10 (lo_M_anyMove_2 n2) n10) msd mrt mps mqt bd kp kS kR kP kQ x1 x2 s1 s2 s3 = some (rr, msd', mrt', mps', mqt', bd', kp', kS', kR', kP', kQ') → W p l e rm_M_anyMove s m ([.ref oM] : List Value).toArray below meth c H locs 0 0 Q (F0 m 75 ls [.int s3, .int s2, .int s1, .ref oM]) := by
            intro msd mrt mps mqt bd kp kS kR kP kQ x1 x2 s1 s2 s3 H locs ls hl hP hD hS hf
            rw [bk_M_anyMove_75] at hf
            obtain ⟨⟨r2001, msd_2002, mrt_2003, mps_2004, mqt_2005, bd_2006, kp_2007, kS_2008, kR_2009, kP_2010, kQ_2011⟩, hy2011, hf⟩ := qq_bd hf
            dsimp only at hf
            refine qq_V (As := [.int s1, .int s2, .int s3]) (rest := []) (wr := []) (wf := [(oM, .inr (5, [.int mth, .int mpl, .ref obd, .int msd_2002, .int mrt_2003, .int mps_2004, .int mqt_2005, .int mmd, .ref opa, .ref opS, .ref opR, .ref opG, .ref opP, .ref opQ, .ref okp, .ref okS, .ref okR, .ref okP, .ref okQ, .ref oli])), (obd, .inl (cI, 64, .inl bd_2006)), (opa, .inl (cI, 9664, .inl pa)), (opS, .inl (cI, 151, .inl pS)), (opR, .inl (cI, 151, .inl pR)), (opG, .inl (cI, 151, .inl pG)), (opP, .inl (cI, 151, .inl pP)), (opQ, .inl (cI, 151, .inl pQ)), (okp, .inl (cI, 256, .inl kp_2007)), (okS, .inl (cI, 4, .inl kS_2008)), (okR, .inl (cI, 4, .inl kR_2009)), (okP, .inl (cI, 4, .inl kP_2010)), (okQ, .inl (cI, 4, .inl kQ_2011)), (oli, .inl (cI, 1320, .inl li))]) ⟨hx, hb, hml, hown, hts⟩ (ct_M_isMove l dC dI cI cL cR oM obd opa opS opR opG opP opQ okp okS okR okP okQ oli mth mpl msd mrt mps mqt mmd bd pa pS pR pG pP pQ kp kS kR kP kQ li s1 s2 s3 hy2011) mm_290 mm_291 mm_292 mm_289 mm_211 hd_M_isMove (by decide) qq_00 hP hD hK hS hA hT hN (q0 := 0) (ci := 5) rfl rfl [0, 1, 2, 3, 4, 5, 6, 7, 8, 9, 10, 11, 12, 13] [] [0, 1, 2, 3, 4, 5, 6, 7, 8, 9, 10, 11, 12, 13] rfl rfl rfl (by decide) rfl hl.1 rfl (Nat.le_of_ble_eq_true rfl) dd_M_anyMove_75 (fun H locs hP hD hS => ?_)
            refine W.eq (g2 := F0 m 78 ls [.int r2001]) rfl ?_
            refine lv_if_eq (tgt := 83) hx hb dd_M_anyMove_78 (by decide) (fun hc => ?_) (fun hc => ?_)
            · replace hf := qq_t hc hf
              obtain ⟨v2012, ev2012⟩ : ∃ z, z = x2 + 1 := ⟨_, rfl⟩
              replace hf := qq_lt ev2012 hf
              refine lv_iinc (k := 2) (v := v2012) (lv' := [(2, .int v2012), (0, .ref oM), (1, .int x1)]) hx hb dd_M_anyMove_83 hl rfl (by rw [ev2012]; exact congrArg _ (by decide)) (by decide) rfl (fun ls hl => ?_)
              refine lv_goto (tgt := 10) hx hb dd_M_anyMove_86 (by decide) ?_
              exact ih10 msd_2002 mrt_2003 mps_2004 mqt_2005 bd_2006 kp_2007 kS_2008 kR_2009 kP_2010 kQ_2011 x1 v2012 _ _ _ (lv_sub hl [1, 2, 0] rfl) hP hD hS hf
            · replace hf := qq_f hc hf
              refine lv_iconst (v := 1) hx hb dd_M_anyMove_81 (by decide) ?_
              cases hf
              exact qq_zret hx hb hr rfl hlocks hQ hP hD hK hS dd_M_anyMove_82
          have hJ62 : ∀ (msd : Int32) (mrt : Int32) (mps : Int32) (mqt : Int32) (bd : Nat → Int32) (kp : Nat → Int32) (kS : Nat → Int32) (kR : Nat → Int32) (kP : Nat → Int32) (kQ : Nat → Int32) (x1 : Int32) (x2 : Int32) (s0 : Int32) (H : Heap) (locs : List Loc) (ls : Array Slot), lv_has ls 4 [(0, .ref oM), (1, .int x1), (2, .int x2)] → va_P (dC, dI) classes [(oM, .inr (5, [.int mth, .int mpl, .ref obd, .int msd, .int mrt, .int mps, .int mqt, .int mmd, .ref opa, .ref opS, .ref opR, .ref opG, .ref opP, .ref opQ, .ref okp, .ref okS, .ref okR, .ref okP, .ref okQ, .ref oli])), (obd, .inl (cI, 64, .inl bd)), (opa, .inl (cI, 9664, .inl pa)), (opS, .inl (cI, 151, .inl pS)), (opR, .inl (cI, 151, .inl pR)), (opG, .inl (cI, 151, .inl pG)), (opP, .inl (cI, 151, .inl pP)), (opQ, .inl (cI, 151, .inl pQ)), (okp, .inl (cI, 256, .inl kp)), (okS, .inl (cI, 4, .inl kS)), (okR, .inl (cI, 4, .inl kR)), (okP, .inl (cI, 4, .inl kP)), (okQ, .inl (cI, 4, .inl kQ)), (oli, .inl (cI, 1320, .inl li))] H → va_D A [(oM, .inr (5, [.int mth, .int mpl, .ref obd, .int msd, .int mrt, .int mps, .int mqt, .int mmd, .ref opa, .ref opS, .ref opR, .ref opG, .ref opP, .ref opQ, .ref okp, .ref okS, .ref okR, .ref okP, .ref okQ, .ref oli])), (obd, .inl (cI, 64, .inl bd)), (opa, .inl (cI, 9664, .inl pa)), (opS, .inl (cI, 151, .inl pS)), (opR, .inl (cI, 151, .inl pR)), (opG, .inl (cI, 151, .inl pG)), (opP, .inl (cI, 151, .inl pP)), (opQ, .inl (cI, 151, .inl pQ)), (okp, .inl (cI, 256, .inl kp)), (okS, .inl (cI, 4, .inl kS)), (okR, .inl (cI, 4, .inl kR)), (okP, .inl (cI, 4, .inl kP)), (okQ, .inl (cI, 4, .inl kQ)), (oli, .inl (cI, 1320, .inl li))] → va_S A s.heap H locs → bk_M_anyMove_62 (lo_M_anyMove_2 n2) (lo_M_anyMove_10 (lo_M_anyMove_2 n2) n10) msd mrt mps mqt bd kp kS kR kP kQ x1 x2 s0 = some (rr, msd', mrt', mps', mqt', bd', kp', kS', kR', kP', kQ') → W p l e rm_M_anyMove s m ([.ref oM] : List Value).toArray below meth c H locs 0 0 Q (F0 m 62 ls [.int s0]) := by
            intro msd mrt mps mqt bd kp kS kR kP kQ x1 x2 s0 H locs ls hl hP hD hS hf
            rw [bk_M_anyMove_62] at hf
            refine lv_istore_n (lv' := [(3, .int s0), (0, .ref oM), (1, .int x1), (2, .int x2)]) hx hb dd_M_anyMove_62 rfl hl (by decide) rfl (fun ls hl => ?_)
            refine lv_aload_n hx hb dd_M_anyMove_63 rfl (lv_at hl 1 rfl) ?_
            refine lv_iload_n hx hb dd_M_anyMove_64 rfl (lv_at hl 2 rfl) ?_
            refine lv_iload_n hx hb dd_M_anyMove_65 rfl (lv_at hl 3 rfl) ?_
            refine lv_iload_n hx hb dd_M_anyMove_66 rfl (lv_at hl 0 rfl) ?_
            refine lv_if_eq (tgt := 74) hx hb dd_M_anyMove_67 (by decide) (fun hc => ?_) (fun hc => ?_)
            · replace hf := qq_t hc hf
              refine lv_iconst (v := 0) hx hb dd_M_anyMove_74 (by decide) ?_
              exact hJ75 msd mrt mps mqt bd kp kS kR kP kQ x1 x2 x1 x2 0 _ _ _ (lv_sub hl [1, 2, 3] rfl) hP hD hS hf
            · replace hf := qq_f hc hf
              refine lv_iconst (v := 5) hx hb dd_M_anyMove_70 (by decide) ?_
              refine lv_goto (tgt := 75) hx hb dd_M_anyMove_71 (by decide) ?_
              exact hJ75 msd mrt mps mqt bd kp kS kR kP kQ x1 x2 x1 x2 5 _ _ _ (lv_sub hl [1, 2, 3] rfl) hP hD hS hf
          have hJ61 : ∀ (msd : Int32) (mrt : Int32) (mps : Int32) (mqt : Int32) (bd : Nat → Int32) (kp : Nat → Int32) (kS : Nat → Int32) (kR : Nat → Int32) (kP : Nat → Int32) (kQ : Nat → Int32) (x1 : Int32) (x2 : Int32) (H : Heap) (locs : List Loc) (ls : Array Slot), lv_has ls 4 [(0, .ref oM), (1, .int x1), (2, .int x2)] → va_P (dC, dI) classes [(oM, .inr (5, [.int mth, .int mpl, .ref obd, .int msd, .int mrt, .int mps, .int mqt, .int mmd, .ref opa, .ref opS, .ref opR, .ref opG, .ref opP, .ref opQ, .ref okp, .ref okS, .ref okR, .ref okP, .ref okQ, .ref oli])), (obd, .inl (cI, 64, .inl bd)), (opa, .inl (cI, 9664, .inl pa)), (opS, .inl (cI, 151, .inl pS)), (opR, .inl (cI, 151, .inl pR)), (opG, .inl (cI, 151, .inl pG)), (opP, .inl (cI, 151, .inl pP)), (opQ, .inl (cI, 151, .inl pQ)), (okp, .inl (cI, 256, .inl kp)), (okS, .inl (cI, 4, .inl kS)), (okR, .inl (cI, 4, .inl kR)), (okP, .inl (cI, 4, .inl kP)), (okQ, .inl (cI, 4, .inl kQ)), (oli, .inl (cI, 1320, .inl li))] H → va_D A [(oM, .inr (5, [.int mth, .int mpl, .ref obd, .int msd, .int mrt, .int mps, .int mqt, .int mmd, .ref opa, .ref opS, .ref opR, .ref opG, .ref opP, .ref opQ, .ref okp, .ref okS, .ref okR, .ref okP, .ref okQ, .ref oli])), (obd, .inl (cI, 64, .inl bd)), (opa, .inl (cI, 9664, .inl pa)), (opS, .inl (cI, 151, .inl pS)), (opR, .inl (cI, 151, .inl pR)), (opG, .inl (cI, 151, .inl pG)), (opP, .inl (cI, 151, .inl pP)), (opQ, .inl (cI, 151, .inl pQ)), (okp, .inl (cI, 256, .inl kp)), (okS, .inl (cI, 4, .inl kS)), (okR, .inl (cI, 4, .inl kR)), (okP, .inl (cI, 4, .inl kP)), (okQ, .inl (cI, 4, .inl kQ)), (oli, .inl (cI, 1320, .inl li))] → va_S A s.heap H locs → bk_M_anyMove_61 (lo_M_anyMove_2 n2) (lo_M_anyMove_10 (lo_M_anyMove_2 n2) n10) msd mrt mps mqt bd kp kS kR kP kQ x1 x2 = some (rr, msd', mrt', mps', mqt', bd', kp', kS', kR', kP', kQ') → W p l e rm_M_anyMove s m ([.ref oM] : List Value).toArray below meth c H locs 0 0 Q (F0 m 61 ls []) := by
            intro msd mrt mps mqt bd kp kS kR kP kQ x1 x2 H locs ls hl hP hD hS hf
            rw [bk_M_anyMove_61] at hf
            refine lv_iconst (v := 0) hx hb dd_M_anyMove_61 (by decide) ?_
            exact hJ62 msd mrt mps mqt bd kp kS kR kP kQ x1 x2 0 _ _ _ (lv_sub hl [0, 1, 2] rfl) hP hD hS hf
          have hJ57 : ∀ (msd : Int32) (mrt : Int32) (mps : Int32) (mqt : Int32) (bd : Nat → Int32) (kp : Nat → Int32) (kS : Nat → Int32) (kR : Nat → Int32) (kP : Nat → Int32) (kQ : Nat → Int32) (x1 : Int32) (x2 : Int32) (H : Heap) (locs : List Loc) (ls : Array Slot), lv_has ls 4 [(0, .ref oM), (1, .int x1), (2, .int x2)] → va_P (dC, dI) classes [(oM, .inr (5, [.int mth, .int mpl, .ref obd, .int msd, .int mrt, .int mps, .int mqt, .int mmd, .ref opa, .ref opS, .ref opR, .ref opG, .ref opP, .ref opQ, .ref okp, .ref okS, .ref okR, .ref okP, .ref okQ, .ref oli])), (obd, .inl (cI, 64, .inl bd)), (opa, .inl (cI, 9664, .inl pa)), (opS, .inl (cI, 151, .inl pS)), (opR, .inl (cI, 151, .inl pR)), (opG, .inl (cI, 151, .inl pG)), (opP, .inl (cI, 151, .inl pP)), (opQ, .inl (cI, 151, .inl pQ)), (okp, .inl (cI, 256, .inl kp)), (okS, .inl (cI, 4, .inl kS)), (okR, .inl (cI, 4, .inl kR)), (okP, .inl (cI, 4, .inl kP)), (okQ, .inl (cI, 4, .inl kQ)), (oli, .inl (cI, 1320, .inl li))] H → va_D A [(oM, .inr (5, [.int mth, .int mpl, .ref obd, .int msd, .int mrt, .int mps, .int mqt, .int mmd, .ref opa, .ref opS, .ref opR, .ref opG, .ref opP, .ref opQ, .ref okp, .ref okS, .ref okR, .ref okP, .ref okQ, .ref oli])), (obd, .inl (cI, 64, .inl bd)), (opa, .inl (cI, 9664, .inl pa)), (opS, .inl (cI, 151, .inl pS)), (opR, .inl (cI, 151, .inl pR)), (opG, .inl (cI, 151, .inl pG)), (opP, .inl (cI, 151, .inl pP)), (opQ, .inl (cI, 151, .inl pQ)), (okp, .inl (cI, 256, .inl kp)), (okS, .inl (cI, 4, .inl kS)), (okR, .inl (cI, 4, .inl kR)), (okP, .inl (cI, 4, .inl kP)), (okQ, .inl (cI, 4, .inl kQ)), (oli, .inl (cI, 1320, .inl li))] → va_S A s.heap H locs → bk_M_anyMove_57 (lo_M_anyMove_2 n2) (lo_M_anyMove_10 (lo_M_anyMove_2 n2) n10) msd mrt mps mqt bd kp kS kR kP kQ x1 x2 = some (rr, msd', mrt', mps', mqt', bd', kp', kS', kR', kP', kQ') → W p l e rm_M_anyMove s m ([.ref oM] : List Value).toArray below meth c H locs 0 0 Q (F0 m 57 ls []) := by
            intro msd mrt mps mqt bd kp kS kR kP kQ x1 x2 H locs ls hl hP hD hS hf
            rw [bk_M_anyMove_57] at hf
            refine lv_iconst (v := 1) hx hb dd_M_anyMove_57 (by decide) ?_
            refine lv_goto (tgt := 62) hx hb dd_M_anyMove_58 (by decide) ?_
            exact hJ62 msd mrt mps mqt bd kp kS kR kP kQ x1 x2 1 _ _ _ (lv_sub hl [0, 1, 2] rfl) hP hD hS hf
          intro msd mrt mps mqt bd kp kS kR kP kQ x1 x2 H locs ls hl hP hD hS hf
          rw [lo_M_anyMove_10_s] at hf
          refine lv_iload_n hx hb dd_M_anyMove_10 rfl (lv_at hl 2 rfl) ?_
          refine lv_bipush (v := 64) hx hb dd_M_anyMove_11 (by decide) ?_
          refine lv_icmp_ge (tgt := 89) hx hb dd_M_anyMove_13 (by decide) (fun hc => ?_) (fun hc => ?_)
          · replace hf := qq_t hc hf
            exact hJ89 msd mrt mps mqt bd kp kS kR kP kQ x1 _ _ _ (lv_sub hl [0, 1] rfl) hP hD hS hf
          · replace hf := qq_f hc hf
            refine lv_aload_n hx hb dd_M_anyMove_16 rfl (lv_at hl 0 rfl) ?_
            refine va_get (D := (dC, dI)) (ci := 5) (v := .ref obd) (C := RR_M) (T := FF_M) (N := 20) hx hb hts uu_M hown hK hP 0 rfl rfl 2 (by decide) (hts _ mm_209) (fun _ h9 => h9) rfl dd_M_anyMove_17 ?_
            refine lv_iload_n hx hb dd_M_anyMove_20 rfl (lv_at hl 1 rfl) ?_
            obtain ⟨hi6001, hf⟩ := qq_ckE hf
            refine va_iald (D := (dC, dI)) (f := bd) (n := 64) (cA := cI) hx hb hK hP 1 0 rfl rfl (qq_inE hi6001) dd_M_anyMove_21 ?_
            refine lv_aload_n hx hb dd_M_anyMove_22 rfl (lv_at hl 0 rfl) ?_
            refine va_get (D := (dC, dI)) (ci := 5) (v := .int msd) (C := RR_M) (T := FF_M) (N := 20) hx hb hts uu_M hown hK hP 0 rfl rfl 3 (by decide) (hts _ mm_228) (fun _ h9 => h9) rfl dd_M_anyMove_23 ?_
            obtain ⟨r6002, hy6002, hf⟩ := qq_bd hf
            refine qq_S (As := [.int (bd x1.toNatClampNeg), .int msd]) (rest := []) (wr := [(oM, .inr (5, [.int mth, .int mpl, .ref obd, .int msd, .int mrt, .int mps, .int mqt, .int mmd, .ref opa, .ref opS, .ref opR, .ref opG, .ref opP, .ref opQ, .ref okp, .ref okS, .ref okR, .ref okP, .ref okQ, .ref oli])), (obd, .inl (cI, 64, .inl bd)), (opa, .inl (cI, 9664, .inl pa)), (opS, .inl (cI, 151, .inl pS)), (opR, .inl (cI, 151, .inl pR)), (opG, .inl (cI, 151, .inl pG)), (opP, .inl (cI, 151, .inl pP)), (opQ, .inl (cI, 151, .inl pQ)), (okp, .inl (cI, 256, .inl kp)), (okS, .inl (cI, 4, .inl kS)), (okR, .inl (cI, 4, .inl kR)), (okP, .inl (cI, 4, .inl kP)), (okQ, .inl (cI, 4, .inl kQ)), (oli, .inl (cI, 1320, .inl li))]) (wf := [(oM, .inr (5, [.int mth, .int mpl, .ref obd, .int msd, .int mrt, .int mps, .int mqt, .int mmd, .ref opa, .ref opS, .ref opR, .ref opG, .ref opP, .ref opQ, .ref okp, .ref okS, .ref okR, .ref okP, .ref okQ, .ref oli])), (obd, .inl (cI, 64, .inl bd)), (opa, .inl (cI, 9664, .inl pa)), (opS, .inl (cI, 151, .inl pS)), (opR, .inl (cI, 151, .inl pR)), (opG, .inl (cI, 151, .inl pG)), (opP, .inl (cI, 151, .inl pP)), (opQ, .inl (cI, 151, .inl pQ)), (okp, .inl (cI, 256, .inl kp)), (okS, .inl (cI, 4, .inl kS)), (okR, .inl (cI, 4, .inl kR)), (okP, .inl (cI, 4, .inl kP)), (okQ, .inl (cI, 4, .inl kQ)), (oli, .inl (cI, 1320, .inl li))]) ⟨hx, hb, hml, hown, hts⟩ (ct_M_isOf l dC dI cI cL cR (bd x1.toNatClampNeg) msd hy6002) mm_241 mm_242 mm_240 mm_211 hd_M_isOf (by decide) qq_00 hP hD hK hS hA hT hN [] [0, 1, 2, 3, 4, 5, 6, 7, 8, 9, 10, 11, 12, 13] [0, 1, 2, 3, 4, 5, 6, 7, 8, 9, 10, 11, 12, 13] rfl rfl rfl (by decide) rfl hl.1 rfl (Nat.le_of_ble_eq_true rfl) dd_M_anyMove_26 (fun H locs hP hD hS => ?_)
            refine W.eq (g2 := F0 m 29 ls [.int r6002]) rfl ?_
            refine lv_if_eq (tgt := 89) hx hb dd_M_anyMove_29 (by decide) (fun hc => ?_) (fun hc => ?_)
            · replace hf := qq_t hc hf
              exact hJ89 msd mrt mps mqt bd kp kS kR kP kQ x1 _ _ _ (lv_sub hl [0, 1] rfl) hP hD hS hf
            · replace hf := qq_f hc hf
              refine lv_aload_n hx hb dd_M_anyMove_32 rfl (lv_at hl 0 rfl) ?_
              refine va_get (D := (dC, dI)) (ci := 5) (v := .ref obd) (C := RR_M) (T := FF_M) (N := 20) hx hb hts uu_M hown hK hP 0 rfl rfl 2 (by decide) (hts _ mm_209) (fun _ h9 => h9) rfl dd_M_anyMove_33 ?_
              refine lv_iload_n hx hb dd_M_anyMove_36 rfl (lv_at hl 1 rfl) ?_
              obtain ⟨hi6003, hf⟩ := qq_ckE hf
              refine va_iald (D := (dC, dI)) (f := bd) (n := 64) (cA := cI) hx hb hK hP 1 0 rfl rfl (qq_inE hi6003) dd_M_anyMove_37 ?_
              obtain ⟨r6004, hy6004, hf⟩ := qq_bd hf
              refine qq_S (As := [.int (bd x1.toNatClampNeg)]) (rest := []) (wr := [(oM, .inr (5, [.int mth, .int mpl, .ref obd, .int msd, .int mrt, .int mps, .int mqt, .int mmd, .ref opa, .ref opS, .ref opR, .ref opG, .ref opP, .ref opQ, .ref okp, .ref okS, .ref okR, .ref okP, .ref okQ, .ref oli])), (obd, .inl (cI, 64, .inl bd)), (opa, .inl (cI, 9664, .inl pa)), (opS, .inl (cI, 151, .inl pS)), (opR, .inl (cI, 151, .inl pR)), (opG, .inl (cI, 151, .inl pG)), (opP, .inl (cI, 151, .inl pP)), (opQ, .inl (cI, 151, .inl pQ)), (okp, .inl (cI, 256, .inl kp)), (okS, .inl (cI, 4, .inl kS)), (okR, .inl (cI, 4, .inl kR)), (okP, .inl (cI, 4, .inl kP)), (okQ, .inl (cI, 4, .inl kQ)), (oli, .inl (cI, 1320, .inl li))]) (wf := [(oM, .inr (5, [.int mth, .int mpl, .ref obd, .int msd, .int mrt, .int mps, .int mqt, .int mmd, .ref opa, .ref opS, .ref opR, .ref opG, .ref opP, .ref opQ, .ref okp, .ref okS, .ref okR, .ref okP, .ref okQ, .ref oli])), (obd, .inl (cI, 64, .inl bd)), (opa, .inl (cI, 9664, .inl pa)), (opS, .inl (cI, 151, .inl pS)), (opR, .inl (cI, 151, .inl pR)), (opG, .inl (cI, 151, .inl pG)), (opP, .inl (cI, 151, .inl pP)), (opQ, .inl (cI, 151, .inl pQ)), (okp, .inl (cI, 256, .inl kp)), (okS, .inl (cI, 4, .inl kS)), (okR, .inl (cI, 4, .inl kR)), (okP, .inl (cI, 4, .inl kP)), (okQ, .inl (cI, 4, .inl kQ)), (oli, .inl (cI, 1320, .inl li))]) ⟨hx, hb, hml, hown, hts⟩ (ct_M_kindOf l dC dI cI cL cR (bd x1.toNatClampNeg) hy6004) mm_222 mm_223 mm_221 mm_211 hd_M_kindOf (by decide) qq_00 hP hD hK hS hA hT hN [] [0, 1, 2, 3, 4, 5, 6, 7, 8, 9, 10, 11, 12, 13] [0, 1, 2, 3, 4, 5, 6, 7, 8, 9, 10, 11, 12, 13] rfl rfl rfl (by decide) rfl hl.1 rfl (Nat.le_of_ble_eq_true rfl) dd_M_anyMove_38 (fun H locs hP hD hS => ?_)
              refine W.eq (g2 := F0 m 41 ls [.int r6004]) rfl ?_
              refine lv_iconst (v := 1) hx hb dd_M_anyMove_41 (by decide) ?_
              refine lv_icmp_ne (tgt := 61) hx hb dd_M_anyMove_42 (by decide) (fun hc => ?_) (fun hc => ?_)
              · replace hf := qq_f hc hf
                exact hJ61 msd mrt mps mqt bd kp kS kR kP kQ x1 x2 _ _ _ (lv_sub hl [0, 1, 2] rfl) hP hD hS hf
              · replace hf := qq_t hc hf
                refine lv_iload_n hx hb dd_M_anyMove_45 rfl (lv_at hl 2 rfl) ?_
                refine lv_bipush (v := 8) hx hb dd_M_anyMove_46 (by decide) ?_
                refine lv_icmp_lt (tgt := 57) hx hb dd_M_anyMove_48 (by decide) (fun hc => ?_) (fun hc => ?_)
                · replace hf := qq_t hc hf
                  exact hJ57 msd mrt mps mqt bd kp kS kR kP kQ x1 x2 _ _ _ (lv_sub hl [0, 1, 2] rfl) hP hD hS hf
                · replace hf := qq_f hc hf
                  refine lv_iload_n hx hb dd_M_anyMove_51 rfl (lv_at hl 2 rfl) ?_
                  refine lv_bipush (v := 55) hx hb dd_M_anyMove_52 (by decide) ?_
                  refine lv_icmp_le (tgt := 61) hx hb dd_M_anyMove_54 (by decide) (fun hc => ?_) (fun hc => ?_)
                  · replace hf := qq_t hc hf
                    exact hJ61 msd mrt mps mqt bd kp kS kR kP kQ x1 x2 _ _ _ (lv_sub hl [0, 1, 2] rfl) hP hD hS hf
                  · replace hf := qq_f hc hf
                    exact hJ57 msd mrt mps mqt bd kp kS kR kP kQ x1 x2 _ _ _ (lv_sub hl [0, 1, 2] rfl) hP hD hS hf
      intro msd mrt mps mqt bd kp kS kR kP kQ x1 H locs ls hl hP hD hS hf
      rw [lo_M_anyMove_2_s] at hf
      refine lv_iload_n hx hb dd_M_anyMove_2 rfl (lv_at hl 1 rfl) ?_
      refine lv_bipush (v := 64) hx hb dd_M_anyMove_3 (by decide) ?_
      refine lv_icmp_ge (tgt := 95) hx hb dd_M_anyMove_5 (by decide) (fun hc => ?_) (fun hc => ?_)
      · replace hf := qq_t hc hf
        refine lv_iconst (v := 0) hx hb dd_M_anyMove_95 (by decide) ?_
        cases hf
        exact qq_zret hx hb hr rfl hlocks hQ hP hD hK hS dd_M_anyMove_96
      · replace hf := qq_f hc hf
        refine lv_iconst (v := 0) hx hb dd_M_anyMove_8 (by decide) ?_
        refine lv_istore_n (lv' := [(2, .int 0), (0, .ref oM), (1, .int x1)]) hx hb dd_M_anyMove_9 rfl hl (by decide) rfl (fun ls hl => ?_)
        exact hL10 qq_FU msd mrt mps mqt bd kp kS kR kP kQ x1 0 _ _ _ (lv_sub hl [1, 2, 0] rfl) hP hD hS hf
  rw [fn_M_anyMove] at hf
  refine lv_iconst (v := 0) hx hb dd_M_anyMove_0 (by decide) ?_
  refine lv_istore_n (lv' := [(1, .int 0), (0, .ref oM)]) hx hb dd_M_anyMove_1 rfl hl (by decide) rfl (fun ls hl => ?_)
  exact hL2 qq_FU msd mrt mps mqt bd kp kS kR kP kQ 0 _ _ _ (lv_sub hl [1, 0] rfl) hP hD hS hf
theorem dd_M_matesAtOnce_0 : decode bb_M_matesAtOnce 0 = .ok (.aload_n 0, 1) := by decide +kernel
theorem dd_M_matesAtOnce_1 : decode bb_M_matesAtOnce 1 = .ok (.iload_n 1, 1) := by decide +kernel
theorem dd_M_matesAtOnce_2 : decode bb_M_matesAtOnce 2 = .ok (.invokevirtual 138, 3) := by decide +kernel
theorem dd_M_matesAtOnce_5 : decode bb_M_matesAtOnce 5 = .ok (.istore_n 2, 1) := by decide +kernel
theorem dd_M_matesAtOnce_6 : decode bb_M_matesAtOnce 6 = .ok (.iconst 0, 1) := by decide +kernel
theorem dd_M_matesAtOnce_7 : decode bb_M_matesAtOnce 7 = .ok (.istore_n 3, 1) := by decide +kernel
theorem dd_M_matesAtOnce_8 : decode bb_M_matesAtOnce 8 = .ok (.iload_n 3, 1) := by decide +kernel
theorem dd_M_matesAtOnce_9 : decode bb_M_matesAtOnce 9 = .ok (.iload_n 2, 1) := by decide +kernel
theorem dd_M_matesAtOnce_10 : decode bb_M_matesAtOnce 10 = .ok (.if_icmp .ge 63, 3) := by decide +kernel
theorem dd_M_matesAtOnce_13 : decode bb_M_matesAtOnce 13 = .ok (.aload_n 0, 1) := by decide +kernel
theorem dd_M_matesAtOnce_14 : decode bb_M_matesAtOnce 14 = .ok (.aload_n 0, 1) := by decide +kernel
theorem dd_M_matesAtOnce_15 : decode bb_M_matesAtOnce 15 = .ok (.getfield 50, 3) := by decide +kernel
theorem dd_M_matesAtOnce_18 : decode bb_M_matesAtOnce 18 = .ok (.sipush 440, 3) := by decide +kernel
theorem dd_M_matesAtOnce_21 : decode bb_M_matesAtOnce 21 = .ok (.iload_n 1, 1) := by decide +kernel
theorem dd_M_matesAtOnce_22 : decode bb_M_matesAtOnce 22 = .ok (.imul, 1) := by decide +kernel
theorem dd_M_matesAtOnce_23 : decode bb_M_matesAtOnce 23 = .ok (.iload_n 3, 1) := by decide +kernel
theorem dd_M_matesAtOnce_24 : decode bb_M_matesAtOnce 24 = .ok (.iadd, 1) := by decide +kernel
theorem dd_M_matesAtOnce_25 : decode bb_M_matesAtOnce 25 = .ok (.iaload, 1) := by decide +kernel
theorem dd_M_matesAtOnce_26 : decode bb_M_matesAtOnce 26 = .ok (.iload_n 1, 1) := by decide +kernel
theorem dd_M_matesAtOnce_27 : decode bb_M_matesAtOnce 27 = .ok (.invokevirtual 141, 3) := by decide +kernel
theorem dd_M_matesAtOnce_30 : decode bb_M_matesAtOnce 30 = .ok (.aload_n 0, 1) := by decide +kernel
theorem dd_M_matesAtOnce_31 : decode bb_M_matesAtOnce 31 = .ok (.aload_n 0, 1) := by decide +kernel
theorem dd_M_matesAtOnce_32 : decode bb_M_matesAtOnce 32 = .ok (.getfield 95, 3) := by decide +kernel
theorem dd_M_matesAtOnce_35 : decode bb_M_matesAtOnce 35 = .ok (.invokevirtual 105, 3) := by decide +kernel
theorem dd_M_matesAtOnce_38 : decode bb_M_matesAtOnce 38 = .ok (.ifCond .eq 14, 3) := by decide +kernel
theorem dd_M_matesAtOnce_41 : decode bb_M_matesAtOnce 41 = .ok (.aload_n 0, 1) := by decide +kernel
theorem dd_M_matesAtOnce_42 : decode bb_M_matesAtOnce 42 = .ok (.invokevirtual 145, 3) := by decide +kernel
theorem dd_M_matesAtOnce_45 : decode bb_M_matesAtOnce 45 = .ok (.ifCond .ne 7, 3) := by decide +kernel
theorem dd_M_matesAtOnce_48 : decode bb_M_matesAtOnce 48 = .ok (.iconst 1, 1) := by decide +kernel
theorem dd_M_matesAtOnce_49 : decode bb_M_matesAtOnce 49 = .ok (.goto 4, 3) := by decide +kernel
theorem dd_M_matesAtOnce_52 : decode bb_M_matesAtOnce 52 = .ok (.iconst 0, 1) := by decide +kernel
theorem dd_M_matesAtOnce_53 : decode bb_M_matesAtOnce 53 = .ok (.istore 4, 2) := by decide +kernel
theorem dd_M_matesAtOnce_55 : decode bb_M_matesAtOnce 55 = .ok (.aload_n 0, 1) := by decide +kernel
theorem dd_M_matesAtOnce_56 : decode bb_M_matesAtOnce 56 = .ok (.iload_n 1, 1) := by decide +kernel
theorem dd_M_matesAtOnce_57 : decode bb_M_matesAtOnce 57 = .ok (.invokevirtual 132, 3) := by decide +kernel
theorem dd_M_matesAtOnce_60 : decode bb_M_matesAtOnce 60 = .ok (.iload 4, 2) := by decide +kernel
theorem dd_M_matesAtOnce_62 : decode bb_M_matesAtOnce 62 = .ok (.ifCond .eq 5, 3) := by decide +kernel
theorem dd_M_matesAtOnce_65 : decode bb_M_matesAtOnce 65 = .ok (.iconst 1, 1) := by decide +kernel
theorem dd_M_matesAtOnce_66 : decode bb_M_matesAtOnce 66 = .ok (.ireturn, 1) := by decide +kernel
theorem dd_M_matesAtOnce_67 : decode bb_M_matesAtOnce 67 = .ok (.iinc 3 1, 3) := by decide +kernel
theorem dd_M_matesAtOnce_70 : decode bb_M_matesAtOnce 70 = .ok (.goto (-62), 3) := by decide +kernel
theorem dd_M_matesAtOnce_73 : decode bb_M_matesAtOnce 73 = .ok (.iconst 0, 1) := by decide +kernel
theorem dd_M_matesAtOnce_74 : decode bb_M_matesAtOnce 74 = .ok (.ireturn, 1) := by decide +kernel
abbrev ty_M_matesAtOnce : Type := Int32 × Int32 × Int32 × Int32 × Int32 × (Nat → Int32) × (Nat → Int32) × (Nat → Int32) × (Nat → Int32) × (Nat → Int32) × (Nat → Int32) × (Nat → Int32)
noncomputable def bk_M_matesAtOnce_53 (a1 : Int32) (k8 : Int32 → Int32 → Int32 → Int32 → (Nat → Int32) → (Nat → Int32) → (Nat → Int32) → (Nat → Int32) → (Nat → Int32) → (Nat → Int32) → (Nat → Int32) → Int32 → Int32 → Option ty_M_matesAtOnce) (msd : Int32) (mrt : Int32) (mps : Int32) (mqt : Int32) (bd : Nat → Int32) (kp : Nat → Int32) (kS : Nat → Int32) (kR : Nat → Int32) (kP : Nat → Int32) (kQ : Nat → Int32) (li : Nat → Int32) (x2 : Int32) (x3 : Int32) (s0 : Int32) : Option ty_M_matesAtOnce := (fn_M_back msd mrt mps mqt bd kp kS kR kP kQ a1).bind fun (msd_1001, mrt_1002, mps_1003, mqt_1004, bd_1005) => if s0 = 0 then (qq_let (x3 + 1) fun v1006 => k8 msd_1001 mrt_1002 mps_1003 mqt_1004 bd_1005 kp kS kR kP kQ li x2 v1006) else (some (1, msd_1001, mrt_1002, mps_1003, mqt_1004, bd_1005, kp, kS, kR, kP, kQ, li))
noncomputable def bk_M_matesAtOnce_52 (a1 : Int32) (k8 : Int32 → Int32 → Int32 → Int32 → (Nat → Int32) → (Nat → Int32) → (Nat → Int32) → (Nat → Int32) → (Nat → Int32) → (Nat → Int32) → (Nat → Int32) → Int32 → Int32 → Option ty_M_matesAtOnce) (msd : Int32) (mrt : Int32) (mps : Int32) (mqt : Int32) (bd : Nat → Int32) (kp : Nat → Int32) (kS : Nat → Int32) (kR : Nat → Int32) (kP : Nat → Int32) (kQ : Nat → Int32) (li : Nat → Int32) (x2 : Int32) (x3 : Int32) : Option ty_M_matesAtOnce := bk_M_matesAtOnce_53 a1 k8 msd mrt mps mqt bd kp kS kR kP kQ li x2 x3 0
noncomputable def lo_M_matesAtOnce_8 (a1 : Int32) : Nat → Int32 → Int32 → Int32 → Int32 → (Nat → Int32) → (Nat → Int32) → (Nat → Int32) → (Nat → Int32) → (Nat → Int32) → (Nat → Int32) → (Nat → Int32) → Int32 → Int32 → Option ty_M_matesAtOnce
  | 0, _, _, _, _, _, _, _, _, _, _, _, _, _ => none
  | n + 1, msd, mrt, mps, mqt, bd, kp, kS, kR, kP, kQ, li, x2, x3 => if x2 ≤ x3 then (some (0, msd, mrt, mps, mqt, bd, kp, kS, kR, kP, kQ, li)) else (qq_ck (qq_in ((440 * a1) + x3) 1320) <| (fn_M_make msd mrt mps mqt bd kp kS kR kP kQ (li ((440 * a1) + x3).toNatClampNeg) a1).bind fun (msd_3002, mrt_3003, mps_3004, mqt_3005, bd_3006, kp_3007, kS_3008, kR_3009, kP_3010, kQ_3011) => (fn_M_isChecked bd_3006 msd_3002).bind fun r3012 => if r3012 = 0 then (bk_M_matesAtOnce_52 a1 (lo_M_matesAtOnce_8 a1 n) msd_3002 mrt_3003 mps_3004 mqt_3005 bd_3006 kp_3007 kS_3008 kR_3009 kP_3010 kQ_3011 li x2 x3) else ((fn_M_anyMove msd_3002 mrt_3003 mps_3004 mqt_3005 bd_3006 kp_3007 kS_3008 kR_3009 kP_3010 kQ_3011).bind fun (r3013, msd_3014, mrt_3015, mps_3016, mqt_3017, bd_3018, kp_3019, kS_3020, kR_3021, kP_3022, kQ_3023) => if r3013 = 0 then (bk_M_matesAtOnce_53 a1 (lo_M_matesAtOnce_8 a1 n) msd_3014 mrt_3015 mps_3016 mqt_3017 bd_3018 kp_3019 kS_3020 kR_3021 kP_3022 kQ_3023 li x2 x3 1) else (bk_M_matesAtOnce_52 a1 (lo_M_matesAtOnce_8 a1 n) msd_3014 mrt_3015 mps_3016 mqt_3017 bd_3018 kp_3019 kS_3020 kR_3021 kP_3022 kQ_3023 li x2 x3)))
theorem lo_M_matesAtOnce_8_z (a1 : Int32) (msd : Int32) (mrt : Int32) (mps : Int32) (mqt : Int32) (bd : Nat → Int32) (kp : Nat → Int32) (kS : Nat → Int32) (kR : Nat → Int32) (kP : Nat → Int32) (kQ : Nat → Int32) (li : Nat → Int32) (x2 : Int32) (x3 : Int32) : lo_M_matesAtOnce_8 a1 0 msd mrt mps mqt bd kp kS kR kP kQ li x2 x3 = none := rfl
theorem lo_M_matesAtOnce_8_s (a1 : Int32) (msd : Int32) (mrt : Int32) (mps : Int32) (mqt : Int32) (bd : Nat → Int32) (kp : Nat → Int32) (kS : Nat → Int32) (kR : Nat → Int32) (kP : Nat → Int32) (kQ : Nat → Int32) (li : Nat → Int32) (x2 : Int32) (x3 : Int32) (n : Nat) : lo_M_matesAtOnce_8 a1 (n + 1) msd mrt mps mqt bd kp kS kR kP kQ li x2 x3 = (if x2 ≤ x3 then (some (0, msd, mrt, mps, mqt, bd, kp, kS, kR, kP, kQ, li)) else (qq_ck (qq_in ((440 * a1) + x3) 1320) <| (fn_M_make msd mrt mps mqt bd kp kS kR kP kQ (li ((440 * a1) + x3).toNatClampNeg) a1).bind fun (msd_3002, mrt_3003, mps_3004, mqt_3005, bd_3006, kp_3007, kS_3008, kR_3009, kP_3010, kQ_3011) => (fn_M_isChecked bd_3006 msd_3002).bind fun r3012 => if r3012 = 0 then (bk_M_matesAtOnce_52 a1 (lo_M_matesAtOnce_8 a1 n) msd_3002 mrt_3003 mps_3004 mqt_3005 bd_3006 kp_3007 kS_3008 kR_3009 kP_3010 kQ_3011 li x2 x3) else ((fn_M_anyMove msd_3002 mrt_3003 mps_3004 mqt_3005 bd_3006 kp_3007 kS_3008 kR_3009 kP_3010 kQ_3011).bind fun (r3013, msd_3014, mrt_3015, mps_3016, mqt_3017, bd_3018, kp_3019, kS_3020, kR_3021, kP_3022, kQ_3023) => if r3013 = 0 then (bk_M_matesAtOnce_53 a1 (lo_M_matesAtOnce_8 a1 n) msd_3014 mrt_3015 mps_3016 mqt_3017 bd_3018 kp_3019 kS_3020 kR_3021 kP_3022 kQ_3023 li x2 x3 1) else (bk_M_matesAtOnce_52 a1 (lo_M_matesAtOnce_8 a1 n) msd_3014 mrt_3015 mps_3016 mqt_3017 bd_3018 kp_3019 kS_3020 kR_3021 kP_3022 kQ_3023 li x2 x3)))) := rfl
noncomputable def fn_M_matesAtOnce (msd : Int32) (mrt : Int32) (mps : Int32) (mqt : Int32) (bd : Nat → Int32) (kp : Nat → Int32) (kS : Nat → Int32) (kR : Nat → Int32) (kP : Nat → Int32) (kQ : Nat → Int32) (li : Nat → Int32) (a1 : Int32) : Option ty_M_matesAtOnce := (fn_M_collect msd mrt mps mqt bd kp kS kR kP kQ li a1).bind fun (r1, msd_2, mrt_3, mps_4, mqt_5, bd_6, kp_7, kS_8, kR_9, kP_10, kQ_11, li_12) => lo_M_matesAtOnce_8 a1 qq_FU msd_2 mrt_3 mps_4 mqt_5 bd_6 kp_7 kS_8 kR_9 kP_10 kQ_11 li_12 r1 0
abbrev rm_M_matesAtOnce : Room := { frames := 9, cells := 0, slots := 0, locals := 214 }
set_option maxHeartbeats 4000000 in
set_option maxRecDepth 100000 in
theorem ct_M_matesAtOnce (l : Launch) (dC : Nat → ClassId) (dI : Nat → Nat → Nat) (cI cL cR : ClassId) (oM obd opa opS opR opG opP opQ okp okS okR okP okQ oli : Nat) (mth : Int32) (mpl : Int32) (msd : Int32) (mrt : Int32) (mps : Int32) (mqt : Int32) (mmd : Int32) (bd : Nat → Int32) (pa : Nat → Int32) (pS : Nat → Int32) (pR : Nat → Int32) (pG : Nat → Int32) (pP : Nat → Int32) (pQ : Nat → Int32) (kp : Nat → Int32) (kS : Nat → Int32) (kR : Nat → Int32) (kP : Nat → Int32) (kQ : Nat → Int32) (li : Nat → Int32) (a1 : Int32) {rr : Int32} {msd' : Int32} {mrt' : Int32} {mps' : Int32} {mqt' : Int32} {bd' : Nat → Int32} {kp' : Nat → Int32} {kS' : Nat → Int32} {kR' : Nat → Int32} {kP' : Nat → Int32} {kQ' : Nat → Int32} {li' : Nat → Int32} (hf : fn_M_matesAtOnce msd mrt mps mqt bd kp kS kR kP kQ li a1 = some (rr, msd', mrt', mps', mqt', bd', kp', kS', kR', kP', kQ', li')) : qq_det l yy_M_matesAtOnce (ww_of yy_M_matesAtOnce bb_M_matesAtOnce 5 (some .boolean)) rm_M_matesAtOnce (dC, dI) (qq_ty cI cL cR) [.ref oM, .int a1] [(oM, .inr (5, [.int mth, .int mpl, .ref obd, .int msd, .int mrt, .int mps, .int mqt, .int mmd, .ref opa, .ref opS, .ref opR, .ref opG, .ref opP, .ref opQ, .ref okp, .ref okS, .ref okR, .ref okP, .ref okQ, .ref oli])), (obd, .inl (cI, 64, .inl bd)), (opa, .inl (cI, 9664, .inl pa)), (opS, .inl (cI, 151, .inl pS)), (opR, .inl (cI, 151, .inl pR)), (opG, .inl (cI, 151, .inl pG)), (opP, .inl (cI, 151, .inl pP)), (opQ, .inl (cI, 151, .inl pQ)), (okp, .inl (cI, 256, .inl kp)), (okS, .inl (cI, 4, .inl kS)), (okR, .inl (cI, 4, .inl kR)), (okP, .inl (cI, 4, .inl kP)), (okQ, .inl (cI, 4, .inl kQ)), (oli, .inl (cI, 1320, .inl li))] (some (.int rr)) [(oM, .inr (5, [.int mth, .int mpl, .ref obd, .int msd', .int mrt', .int mps', .int mqt', .int mmd, .ref opa, .ref opS, .ref opR, .ref opG, .ref opP, .ref opQ, .ref okp, .ref okS, .ref okR, .ref okP, .ref okQ, .ref oli])), (obd, .inl (cI, 64, .inl bd')), (opa, .inl (cI, 9664, .inl pa)), (opS, .inl (cI, 151, .inl pS)), (opR, .inl (cI, 151, .inl pR)), (opG, .inl (cI, 151, .inl pG)), (opP, .inl (cI, 151, .inl pP)), (opQ, .inl (cI, 151, .inl pQ)), (okp, .inl (cI, 256, .inl kp')), (okS, .inl (cI, 4, .inl kS')), (okR, .inl (cI, 4, .inl kR')), (okP, .inl (cI, 4, .inl kP')), (okQ, .inl (cI, 4, .inl kQ')), (oli, .inl (cI, 1320, .inl li'))] := by
  refine qq_of (own := RR_M) (by decide) rfl (Nat.le_of_ble_eq_true rfl) ?_
  intro p e s m below meth c A Q ls hx hb hml hr hlocks hown hts hK hA hT hN hP hD hS hl hQ
  have hl : lv_has ls 5 [(0, .ref oM), (1, .int a1)] := hl
  have hL8 : ∀ (n8 : Nat) (msd : Int32) (mrt : Int32) (mps : Int32) (mqt : Int32) (bd : Nat → Int32) (kp : Nat → Int32) (kS : Nat → Int32) (kR : Nat → Int32) (kP : Nat → Int32) (kQ : Nat → Int32) (li : Nat → Int32) (x2 : Int32) (x3 : Int32) (H : Heap) (locs : List Loc) (ls : Array Slot), lv_has ls 5 [(0, .ref oM), (1, .int a1), (2, .int x2), (3, .int x3)] → va_P (dC, dI) classes [(oM, .inr (5, [.int mth, .int mpl, .ref obd, .int msd, .int mrt, .int mps, .int mqt, .int mmd, .ref opa, .ref opS, .ref opR, .ref opG, .ref opP, .ref opQ, .ref okp, .ref okS, .ref okR, .ref okP, .ref okQ, .ref oli])), (obd, .inl (cI, 64, .inl bd)), (opa, .inl (cI, 9664, .inl pa)), (opS, .inl (cI, 151, .inl pS)), (opR, .inl (cI, 151, .inl pR)), (opG, .inl (cI, 151, .inl pG)), (opP, .inl (cI, 151, .inl pP)), (opQ, .inl (cI, 151, .inl pQ)), (okp, .inl (cI, 256, .inl kp)), (okS, .inl (cI, 4, .inl kS)), (okR, .inl (cI, 4, .inl kR)), (okP, .inl (cI, 4, .inl kP)), (okQ, .inl (cI, 4, .inl kQ)), (oli, .inl (cI, 1320, .inl li))] H → va_D A [(oM, .inr (5, [.int mth, .int mpl, .ref obd, .int msd, .int mrt, .int mps, .int mqt, .int mmd, .ref opa, .ref opS, .ref opR, .ref opG, .ref opP, .ref opQ, .ref okp, .ref okS, .ref okR, .ref okP, .ref okQ, .ref oli])), (obd, .inl (cI, 64, .inl bd)), (opa, .inl (cI, 9664, .inl pa)), (opS, .inl (cI, 151, .inl pS)), (opR, .inl (cI, 151, .inl pR)), (opG, .inl (cI, 151, .inl pG)), (opP, .inl (cI, 151, .inl pP)), (opQ, .inl (cI, 151, .inl pQ)), (okp, .inl (cI, 256, .inl kp)), (okS, .inl (cI, 4, .inl kS)), (okR, .inl (cI, 4, .inl kR)), (okP, .inl (cI, 4, .inl kP)), (okQ, .inl (cI, 4, .inl kQ)), (oli, .inl (cI, 1320, .inl li))] → va_S A s.heap H locs → lo_M_matesAtOnce_8 a1 n8 msd mrt mps mqt bd kp kS kR kP kQ li x2 x3 = some (rr, msd', mrt', mps', mqt', bd', kp', kS', kR', kP', kQ', li') → W p l e rm_M_matesAtOnce s m ([.ref oM, .int a1] : List Value).toArray below meth c H locs 0 0 Q (F0 m 8 ls []) := by
    intro n8
    induction n8 with
    | zero => exact fun msd mrt mps mqt bd kp kS kR kP kQ li x2 x3 H locs ls hl hP hD hS hf => absurd hf (by rw [lo_M_matesAtOnce_8_z]; exact fun h => by cases h)
    | succ n8 ih8 =>
      have hJ53 : ∀ (msd : Int32) (mrt : Int32) (mps : Int32) (mqt : Int32) (bd : Nat → Int32) (kp : Nat → Int32) (kS : Nat → Int32) (kR : Nat → Int32) (kP : Nat → Int32) (kQ : Nat → Int32) (li : Nat → Int32) (x2 : Int32) (x3 : Int32) (s0 : Int32) (H : Heap) (locs : List Loc) (ls : Array Slot), lv_has ls 5 [(0, .ref oM), (1, .int a1), (2, .int x2), (3, .int x3)] → va_P (dC, dI) classes [(oM, .inr (5, [.int mth, .int mpl, .ref obd, .int msd, .int mrt, .int mps, .int mqt, .int mmd, .ref opa, .ref opS, .ref opR, .ref opG, .ref opP, .ref opQ, .ref okp, .ref okS, .ref okR, .ref okP, .ref okQ, .ref oli])), (obd, .inl (cI, 64, .inl bd)), (opa, .inl (cI, 9664, .inl pa)), (opS, .inl (cI, 151, .inl pS)), (opR, .inl (cI, 151, .inl pR)), (opG, .inl (cI, 151, .inl pG)), (opP, .inl (cI, 151, .inl pP)), (opQ, .inl (cI, 151, .inl pQ)), (okp, .inl (cI, 256, .inl kp)), (okS, .inl (cI, 4, .inl kS)), (okR, .inl (cI, 4, .inl kR)), (okP, .inl (cI, 4, .inl kP)), (okQ, .inl (cI, 4, .inl kQ)), (oli, .inl (cI, 1320, .inl li))] H → va_D A [(oM, .inr (5, [.int mth, .int mpl, .ref obd, .int msd, .int mrt, .int mps, .int mqt, .int mmd, .ref opa, .ref opS, .ref opR, .ref opG, .ref opP, .ref opQ, .ref okp, .ref okS, .ref okR, .ref okP, .ref okQ, .ref oli])), (obd, .inl (cI, 64, .inl bd)), (opa, .inl (cI, 9664, .inl pa)), (opS, .inl (cI, 151, .inl pS)), (opR, .inl (cI, 151, .inl pR)), (opG, .inl (cI, 151, .inl pG)), (opP, .inl (cI, 151, .inl pP)), (opQ, .inl (cI, 151, .inl pQ)), (okp, .inl (cI, 256, .inl kp)), (okS, .inl (cI, 4, .inl kS)), (okR, .inl (cI, 4, .inl kR)), (okP, .inl (cI, 4, .inl kP)), (okQ, .inl (cI, 4, .inl kQ)), (oli, .inl (cI, 1320, .inl li))] → va_S A s.heap H locs → bk_M_matesAtOnce_53 a1 (lo_M_matesAtOnce_8 a1 n8) msd mrt mps mqt bd kp kS kR kP kQ li x2 x3 s0 = some (rr, msd', mrt', mps', mqt', bd', kp', kS', kR', kP', kQ', li') → W p l e rm_M_matesAtOnce s m ([.ref oM, .int a1] : List Value).toArray below meth c H locs 0 0 Q (F0 m 53 ls [.int s0]) := by
        intro msd mrt mps mqt bd kp kS kR kP kQ li x2 x3 s0 H locs ls hl hP hD hS hf
        rw [bk_M_matesAtOnce_53] at hf
        refine lv_istore (lv' := [(4, .int s0), (0, .ref oM), (1, .int a1), (2, .int x2), (3, .int x3)]) hx hb dd_M_matesAtOnce_53 hl (by decide) rfl (fun ls hl => ?_)
        refine lv_aload_n hx hb dd_M_matesAtOnce_55 rfl (lv_at hl 1 rfl) ?_
        refine lv_iload_n hx hb dd_M_matesAtOnce_56 rfl (lv_at hl 2 rfl) ?_
        obtain ⟨⟨msd_1001, mrt_1002, mps_1003, mqt_1004, bd_1005⟩, hy1005, hf⟩ := qq_bd hf
        dsimp only at hf
        refine qq_V (As := [.int a1]) (rest := []) (wr := []) (wf := [(oM, .inr (5, [.int mth, .int mpl, .ref obd, .int msd_1001, .int mrt_1002, .int mps_1003, .int mqt_1004, .int mmd, .ref opa, .ref opS, .ref opR, .ref opG, .ref opP, .ref opQ, .ref okp, .ref okS, .ref okR, .ref okP, .ref okQ, .ref oli])), (obd, .inl (cI, 64, .inl bd_1005)), (opa, .inl (cI, 9664, .inl pa)), (opS, .inl (cI, 151, .inl pS)), (opR, .inl (cI, 151, .inl pR)), (opG, .inl (cI, 151, .inl pG)), (opP, .inl (cI, 151, .inl pP)), (opQ, .inl (cI, 151, .inl pQ)), (okp, .inl (cI, 256, .inl kp)), (okS, .inl (cI, 4, .inl kS)), (okR, .inl (cI, 4, .inl kR)), (okP, .inl (cI, 4, .inl kP)), (okQ, .inl (cI, 4, .inl kQ)), (oli, .inl (cI, 1320, .inl li))]) ⟨hx, hb, hml, hown, hts⟩ (ct_M_back l dC dI cI cL cR oM obd opa opS opR opG opP opQ okp okS okR okP okQ oli mth mpl msd mrt mps mqt mmd bd pa pS pR pG pP pQ kp kS kR kP kQ li a1 hy1005) mm_274 mm_275 mm_276 mm_273 mm_211 hd_M_back (by decide) qq_00 hP hD hK hS hA hT hN (q0 := 0) (ci := 5) rfl rfl [0, 1, 2, 3, 4, 5, 6, 7, 8, 9, 10, 11, 12, 13] [] [0, 1, 2, 3, 4, 5, 6, 7, 8, 9, 10, 11, 12, 13] rfl rfl rfl (by decide) rfl hl.1 rfl (Nat.le_of_ble_eq_true rfl) dd_M_matesAtOnce_57 (fun H locs hP hD hS => ?_)
        refine W.eq (g2 := F0 m 60 ls []) rfl ?_
        refine lv_iload hx hb dd_M_matesAtOnce_60 (lv_at hl 0 rfl) ?_
        refine lv_if_eq (tgt := 67) hx hb dd_M_matesAtOnce_62 (by decide) (fun hc => ?_) (fun hc => ?_)
        · replace hf := qq_t hc hf
          obtain ⟨v1006, ev1006⟩ : ∃ z, z = x3 + 1 := ⟨_, rfl⟩
          replace hf := qq_lt ev1006 hf
          refine lv_iinc (k := 4) (v := v1006) (lv' := [(3, .int v1006), (4, .int s0), (0, .ref oM), (1, .int a1), (2, .int x2)]) hx hb dd_M_matesAtOnce_67 hl rfl (by rw [ev1006]; exact congrArg _ (by decide)) (by decide) rfl (fun ls hl => ?_)
          refine lv_goto (tgt := 8) hx hb dd_M_matesAtOnce_70 (by decide) ?_
          exact ih8 msd_1001 mrt_1002 mps_1003 mqt_1004 bd_1005 kp kS kR kP kQ li x2 v1006 _ _ _ (lv_sub hl [2, 3, 4, 0] rfl) hP hD hS hf
        · replace hf := qq_f hc hf
          refine lv_iconst (v := 1) hx hb dd_M_matesAtOnce_65 (by decide) ?_
          cases hf
          exact qq_zret hx hb hr rfl hlocks hQ hP hD hK hS dd_M_matesAtOnce_66
      have hJ52 : ∀ (msd : Int32) (mrt : Int32) (mps : Int32) (mqt : Int32) (bd : Nat → Int32) (kp : Nat → Int32) (kS : Nat → Int32) (kR : Nat → Int32) (kP : Nat → Int32) (kQ : Nat → Int32) (li : Nat → Int32) (x2 : Int32) (x3 : Int32) (H : Heap) (locs : List Loc) (ls : Array Slot), lv_has ls 5 [(0, .ref oM), (1, .int a1), (2, .int x2), (3, .int x3)] → va_P (dC, dI) classes [(oM, .inr (5, [.int mth, .int mpl, .ref obd, .int msd, .int mrt, .int mps, .int mqt, .int mmd, .ref opa, .ref opS, .ref opR, .ref opG, .ref opP, .ref opQ, .ref okp, .ref okS, .ref okR, .ref okP, .ref okQ, .ref oli])), (obd, .inl (cI, 64, .inl bd)), (opa, .inl (cI, 9664, .inl pa)), (opS, .inl (cI, 151, .inl pS)), (opR, .inl (cI, 151, .inl pR)), (opG, .inl (cI, 151, .inl pG)), (opP, .inl (cI, 151, .inl pP)), (opQ, .inl (cI, 151, .inl pQ)), (okp, .inl (cI, 256, .inl kp)), (okS, .inl (cI, 4, .inl kS)), (okR, .inl (cI, 4, .inl kR)), (okP, .inl (cI, 4, .inl kP)), (okQ, .inl (cI, 4, .inl kQ)), (oli, .inl (cI, 1320, .inl li))] H → va_D A [(oM, .inr (5, [.int mth, .int mpl, .ref obd, .int msd, .int mrt, .int mps, .int mqt, .int mmd, .ref opa, .ref opS, .ref opR, .ref opG, .ref opP, .ref opQ, .ref okp, .ref okS, .ref okR, .ref okP, .ref okQ, .ref oli])), (obd, .inl (cI, 64, .inl bd)), (opa, .inl (cI, 9664, .inl pa)), (opS, .inl (cI, 151, .inl pS)), (opR, .inl (cI, 151, .inl pR)), (opG, .inl (cI, 151, .inl pG)), (opP, .inl (cI, 151, .inl pP)), (opQ, .inl (cI, 151, .inl pQ)), (okp, .inl (cI, 256, .inl kp)), (okS, .inl (cI, 4, .inl kS)), (okR, .inl (cI, 4, .inl kR)), (okP, .inl (cI, 4, .inl kP)), (okQ, .inl (cI, 4, .inl kQ)), (oli, .inl (cI, 1320, .inl li))] → va_S A s.heap H locs → bk_M_matesAtOnce_52 a1 (lo_M_matesAtOnce_8 a1 n8) msd mrt mps mqt bd kp kS kR kP kQ li x2 x3 = some (rr, msd', mrt', mps', mqt', bd', kp', kS', kR', kP', kQ', li') → W p l e rm_M_matesAtOnce s m ([.ref oM, .int a1] : List Value).toArray below meth c H locs 0 0 Q (F0 m 52 ls []) := by
        intro msd mrt mps mqt bd kp kS kR kP kQ li x2 x3 H locs ls hl hP hD hS hf
        rw [bk_M_matesAtOnce_52] at hf
        refine lv_iconst (v := 0) hx hb dd_M_matesAtOnce_52 (by decide) ?_
        exact hJ53 msd mrt mps mqt bd kp kS kR kP kQ li x2 x3 0 _ _ _ (lv_sub hl [0, 1, 2, 3] rfl) hP hD hS hf
      intro msd mrt mps mqt bd kp kS kR kP kQ li x2 x3 H locs ls hl hP hD hS hf
      rw [lo_M_matesAtOnce_8_s] at hf
      refine lv_iload_n hx hb dd_M_matesAtOnce_8 rfl (lv_at hl 3 rfl) ?_
      refine lv_iload_n hx hb dd_M_matesAtOnce_9 rfl (lv_at hl 2 rfl) ?_
      refine lv_icmp_ge (tgt := 73) hx hb dd_M_matesAtOnce_10 (by decide) (fun hc => ?_) (fun hc => ?_)
      · replace hf := qq_t hc hf
        refine lv_iconst (v := 0) hx hb dd_M_matesAtOnce_73 (by decide) ?_
        cases hf
        exact qq_zret hx hb hr rfl hlocks hQ hP hD hK hS dd_M_matesAtOnce_74
      · replace hf := qq_f hc hf
        refine lv_aload_n hx hb dd_M_matesAtOnce_13 rfl (lv_at hl 0 rfl) ?_
        refine lv_aload_n hx hb dd_M_matesAtOnce_14 rfl (lv_at hl 0 rfl) ?_
        refine va_get (D := (dC, dI)) (ci := 5) (v := .ref oli) (C := RR_M) (T := FF_M) (N := 20) hx hb hts uu_M hown hK hP 0 rfl rfl 19 (by decide) (hts _ mm_293) (fun _ h9 => h9) rfl dd_M_matesAtOnce_15 ?_
        refine lv_sipush (v := 440) hx hb dd_M_matesAtOnce_18 (by decide) ?_
        refine lv_iload_n hx hb dd_M_matesAtOnce_21 rfl (lv_at hl 1 rfl) ?_
        refine lv_imul hx hb dd_M_matesAtOnce_22 ?_
        refine lv_iload_n hx hb dd_M_matesAtOnce_23 rfl (lv_at hl 3 rfl) ?_
        refine lv_iadd hx hb dd_M_matesAtOnce_24 ?_
        obtain ⟨hi3001, hf⟩ := qq_ckE hf
        refine va_iald (D := (dC, dI)) (f := li) (n := 1320) (cA := cI) hx hb hK hP 13 0 rfl rfl (qq_inE hi3001) dd_M_matesAtOnce_25 ?_
        refine lv_iload_n hx hb dd_M_matesAtOnce_26 rfl (lv_at hl 1 rfl) ?_
        obtain ⟨⟨msd_3002, mrt_3003, mps_3004, mqt_3005, bd_3006, kp_3007, kS_3008, kR_3009, kP_3010, kQ_3011⟩, hy3011, hf⟩ := qq_bd hf
        dsimp only at hf
        refine qq_V (As := [.int (li ((440 * a1) + x3).toNatClampNeg), .int a1]) (rest := []) (wr := []) (wf := [(oM, .inr (5, [.int mth, .int mpl, .ref obd, .int msd_3002, .int mrt_3003, .int mps_3004, .int mqt_3005, .int mmd, .ref opa, .ref opS, .ref opR, .ref opG, .ref opP, .ref opQ, .ref okp, .ref okS, .ref okR, .ref okP, .ref okQ, .ref oli])), (obd, .inl (cI, 64, .inl bd_3006)), (opa, .inl (cI, 9664, .inl pa)), (opS, .inl (cI, 151, .inl pS)), (opR, .inl (cI, 151, .inl pR)), (opG, .inl (cI, 151, .inl pG)), (opP, .inl (cI, 151, .inl pP)), (opQ, .inl (cI, 151, .inl pQ)), (okp, .inl (cI, 256, .inl kp_3007)), (okS, .inl (cI, 4, .inl kS_3008)), (okR, .inl (cI, 4, .inl kR_3009)), (okP, .inl (cI, 4, .inl kP_3010)), (okQ, .inl (cI, 4, .inl kQ_3011)), (oli, .inl (cI, 1320, .inl li))]) ⟨hx, hb, hml, hown, hts⟩ (ct_M_make l dC dI cI cL cR oM obd opa opS opR opG opP opQ okp okS okR okP okQ oli mth mpl msd mrt mps mqt mmd bd pa pS pR pG pP pQ kp kS kR kP kQ li (li ((440 * a1) + x3).toNatClampNeg) a1 hy3011) mm_295 mm_296 mm_297 mm_294 mm_211 hd_M_make (by decide) qq_00 hP hD hK hS hA hT hN (q0 := 0) (ci := 5) rfl rfl [0, 1, 2, 3, 4, 5, 6, 7, 8, 9, 10, 11, 12, 13] [] [0, 1, 2, 3, 4, 5, 6, 7, 8, 9, 10, 11, 12, 13] rfl rfl rfl (by decide) rfl hl.1 rfl (Nat.le_of_ble_eq_true rfl) dd_M_matesAtOnce_27 (fun H locs hP hD hS => ?_)
        refine W.eq (g2 := F0 m 30 ls []) rfl ?_
        refine lv_aload_n hx hb dd_M_matesAtOnce_30 rfl (lv_at hl 0 rfl) ?_
        refine lv_aload_n hx hb dd_M_matesAtOnce_31 rfl (lv_at hl 0 rfl) ?_
        refine va_get (D := (dC, dI)) (ci := 5) (v := .int msd_3002) (C := RR_M) (T := FF_M) (N := 20) hx hb hts uu_M hown hK hP 0 rfl rfl 3 (by decide) (hts _ mm_228) (fun _ h9 => h9) rfl dd_M_matesAtOnce_32 ?_
        obtain ⟨r3012, hy3012, hf⟩ := qq_bd hf
        refine qq_V (As := [.int msd_3002]) (rest := []) (wr := []) (wf := [(oM, .inr (5, [.int mth, .int mpl, .ref obd, .int msd_3002, .int mrt_3003, .int mps_3004, .int mqt_3005, .int mmd, .ref opa, .ref opS, .ref opR, .ref opG, .ref opP, .ref opQ, .ref okp, .ref okS, .ref okR, .ref okP, .ref okQ, .ref oli])), (obd, .inl (cI, 64, .inl bd_3006)), (opa, .inl (cI, 9664, .inl pa)), (opS, .inl (cI, 151, .inl pS)), (opR, .inl (cI, 151, .inl pR)), (opG, .inl (cI, 151, .inl pG)), (opP, .inl (cI, 151, .inl pP)), (opQ, .inl (cI, 151, .inl pQ)), (okp, .inl (cI, 256, .inl kp_3007)), (okS, .inl (cI, 4, .inl kS_3008)), (okR, .inl (cI, 4, .inl kR_3009)), (okP, .inl (cI, 4, .inl kP_3010)), (okQ, .inl (cI, 4, .inl kQ_3011)), (oli, .inl (cI, 1320, .inl li))]) ⟨hx, hb, hml, hown, hts⟩ (ct_M_isChecked l dC dI cI cL cR oM obd opa opS opR opG opP opQ okp okS okR okP okQ oli mth mpl msd_3002 mrt_3003 mps_3004 mqt_3005 mmd bd_3006 pa pS pR pG pP pQ kp_3007 kS_3008 kR_3009 kP_3010 kQ_3011 li msd_3002 hy3012) mm_252 mm_253 mm_254 mm_251 mm_211 hd_M_isChecked (by decide) qq_00 hP hD hK hS hA hT hN (q0 := 0) (ci := 5) rfl rfl [0, 1, 2, 3, 4, 5, 6, 7, 8, 9, 10, 11, 12, 13] [] [0, 1, 2, 3, 4, 5, 6, 7, 8, 9, 10, 11, 12, 13] rfl rfl rfl (by decide) rfl hl.1 rfl (Nat.le_of_ble_eq_true rfl) dd_M_matesAtOnce_35 (fun H locs hP hD hS => ?_)
        refine W.eq (g2 := F0 m 38 ls [.int r3012]) rfl ?_
        refine lv_if_eq (tgt := 52) hx hb dd_M_matesAtOnce_38 (by decide) (fun hc => ?_) (fun hc => ?_)
        · replace hf := qq_t hc hf
          exact hJ52 msd_3002 mrt_3003 mps_3004 mqt_3005 bd_3006 kp_3007 kS_3008 kR_3009 kP_3010 kQ_3011 li x2 x3 _ _ _ (lv_sub hl [0, 1, 2, 3] rfl) hP hD hS hf
        · replace hf := qq_f hc hf
          refine lv_aload_n hx hb dd_M_matesAtOnce_41 rfl (lv_at hl 0 rfl) ?_
          obtain ⟨⟨r3013, msd_3014, mrt_3015, mps_3016, mqt_3017, bd_3018, kp_3019, kS_3020, kR_3021, kP_3022, kQ_3023⟩, hy3023, hf⟩ := qq_bd hf
          dsimp only at hf
          refine qq_V (As := []) (rest := []) (wr := []) (wf := [(oM, .inr (5, [.int mth, .int mpl, .ref obd, .int msd_3014, .int mrt_3015, .int mps_3016, .int mqt_3017, .int mmd, .ref opa, .ref opS, .ref opR, .ref opG, .ref opP, .ref opQ, .ref okp, .ref okS, .ref okR, .ref okP, .ref okQ, .ref oli])), (obd, .inl (cI, 64, .inl bd_3018)), (opa, .inl (cI, 9664, .inl pa)), (opS, .inl (cI, 151, .inl pS)), (opR, .inl (cI, 151, .inl pR)), (opG, .inl (cI, 151, .inl pG)), (opP, .inl (cI, 151, .inl pP)), (opQ, .inl (cI, 151, .inl pQ)), (okp, .inl (cI, 256, .inl kp_3019)), (okS, .inl (cI, 4, .inl kS_3020)), (okR, .inl (cI, 4, .inl kR_3021)), (okP, .inl (cI, 4, .inl kP_3022)), (okQ, .inl (cI, 4, .inl kQ_3023)), (oli, .inl (cI, 1320, .inl li))]) ⟨hx, hb, hml, hown, hts⟩ (ct_M_anyMove l dC dI cI cL cR oM obd opa opS opR opG opP opQ okp okS okR okP okQ oli mth mpl msd_3002 mrt_3003 mps_3004 mqt_3005 mmd bd_3006 pa pS pR pG pP pQ kp_3007 kS_3008 kR_3009 kP_3010 kQ_3011 li hy3023) mm_299 mm_300 mm_301 mm_298 mm_211 hd_M_anyMove (by decide) qq_00 hP hD hK hS hA hT hN (q0 := 0) (ci := 5) rfl rfl [0, 1, 2, 3, 4, 5, 6, 7, 8, 9, 10, 11, 12, 13] [] [0, 1, 2, 3, 4, 5, 6, 7, 8, 9, 10, 11, 12, 13] rfl rfl rfl (by decide) rfl hl.1 rfl (Nat.le_of_ble_eq_true rfl) dd_M_matesAtOnce_42 (fun H locs hP hD hS => ?_)
          refine W.eq (g2 := F0 m 45 ls [.int r3013]) rfl ?_
          refine lv_if_ne (tgt := 52) hx hb dd_M_matesAtOnce_45 (by decide) (fun hc => ?_) (fun hc => ?_)
          · replace hf := qq_f hc hf
            exact hJ52 msd_3014 mrt_3015 mps_3016 mqt_3017 bd_3018 kp_3019 kS_3020 kR_3021 kP_3022 kQ_3023 li x2 x3 _ _ _ (lv_sub hl [0, 1, 2, 3] rfl) hP hD hS hf
          · replace hf := qq_t hc hf
            refine lv_iconst (v := 1) hx hb dd_M_matesAtOnce_48 (by decide) ?_
            refine lv_goto (tgt := 53) hx hb dd_M_matesAtOnce_49 (by decide) ?_
            exact hJ53 msd_3014 mrt_3015 mps_3016 mqt_3017 bd_3018 kp_3019 kS_3020 kR_3021 kP_3022 kQ_3023 li x2 x3 1 _ _ _ (lv_sub hl [0, 1, 2, 3] rfl) hP hD hS hf
  rw [fn_M_matesAtOnce] at hf
  refine lv_aload_n hx hb dd_M_matesAtOnce_0 rfl (lv_at hl 0 rfl) ?_
  refine lv_iload_n hx hb dd_M_matesAtOnce_1 rfl (lv_at hl 1 rfl) ?_
  obtain ⟨⟨r1, msd_2, mrt_3, mps_4, mqt_5, bd_6, kp_7, kS_8, kR_9, kP_10, kQ_11, li_12⟩, hy12, hf⟩ := qq_bd hf
  dsimp only at hf
  refine qq_V (As := [.int a1]) (rest := []) (wr := []) (wf := [(oM, .inr (5, [.int mth, .int mpl, .ref obd, .int msd_2, .int mrt_3, .int mps_4, .int mqt_5, .int mmd, .ref opa, .ref opS, .ref opR, .ref opG, .ref opP, .ref opQ, .ref okp, .ref okS, .ref okR, .ref okP, .ref okQ, .ref oli])), (obd, .inl (cI, 64, .inl bd_6)), (opa, .inl (cI, 9664, .inl pa)), (opS, .inl (cI, 151, .inl pS)), (opR, .inl (cI, 151, .inl pR)), (opG, .inl (cI, 151, .inl pG)), (opP, .inl (cI, 151, .inl pP)), (opQ, .inl (cI, 151, .inl pQ)), (okp, .inl (cI, 256, .inl kp_7)), (okS, .inl (cI, 4, .inl kS_8)), (okR, .inl (cI, 4, .inl kR_9)), (okP, .inl (cI, 4, .inl kP_10)), (okQ, .inl (cI, 4, .inl kQ_11)), (oli, .inl (cI, 1320, .inl li_12))]) ⟨hx, hb, hml, hown, hts⟩ (ct_M_collect l dC dI cI cL cR oM obd opa opS opR opG opP opQ okp okS okR okP okQ oli mth mpl msd mrt mps mqt mmd bd pa pS pR pG pP pQ kp kS kR kP kQ li a1 hy12) mm_303 mm_304 mm_305 mm_302 mm_211 hd_M_collect (by decide) qq_00 hP hD hK hS hA hT hN (q0 := 0) (ci := 5) rfl rfl [0, 1, 2, 3, 4, 5, 6, 7, 8, 9, 10, 11, 12, 13] [] [0, 1, 2, 3, 4, 5, 6, 7, 8, 9, 10, 11, 12, 13] rfl rfl rfl (by decide) rfl hl.1 rfl (Nat.le_of_ble_eq_true rfl) dd_M_matesAtOnce_2 (fun H locs hP hD hS => ?_)
  refine W.eq (g2 := F0 m 5 ls [.int r1]) rfl ?_
  refine lv_istore_n (lv' := [(2, .int r1), (0, .ref oM), (1, .int a1)]) hx hb dd_M_matesAtOnce_5 rfl hl (by decide) rfl (fun ls hl => ?_)
  refine lv_iconst (v := 0) hx hb dd_M_matesAtOnce_6 (by decide) ?_
  refine lv_istore_n (lv' := [(3, .int 0), (2, .int r1), (0, .ref oM), (1, .int a1)]) hx hb dd_M_matesAtOnce_7 rfl hl (by decide) rfl (fun ls hl => ?_)
  exact hL8 qq_FU msd_2 mrt_3 mps_4 mqt_5 bd_6 kp_7 kS_8 kR_9 kP_10 kQ_11 li_12 r1 0 _ _ _ (lv_sub hl [2, 3, 1, 0] rfl) hP hD hS hf
theorem dd_M_allMated_0 : decode bb_M_allMated 0 = .ok (.aload_n 0, 1) := by decide +kernel
theorem dd_M_allMated_1 : decode bb_M_allMated 1 = .ok (.iconst 1, 1) := by decide +kernel
theorem dd_M_allMated_2 : decode bb_M_allMated 2 = .ok (.invokevirtual 138, 3) := by decide +kernel
theorem dd_M_allMated_5 : decode bb_M_allMated 5 = .ok (.istore_n 1, 1) := by decide +kernel
theorem dd_M_allMated_6 : decode bb_M_allMated 6 = .ok (.iload_n 1, 1) := by decide +kernel
theorem dd_M_allMated_7 : decode bb_M_allMated 7 = .ok (.ifCond .le 7, 3) := by decide +kernel
theorem dd_M_allMated_10 : decode bb_M_allMated 10 = .ok (.iconst 1, 1) := by decide +kernel
theorem dd_M_allMated_11 : decode bb_M_allMated 11 = .ok (.goto 4, 3) := by decide +kernel
theorem dd_M_allMated_14 : decode bb_M_allMated 14 = .ok (.iconst 0, 1) := by decide +kernel
theorem dd_M_allMated_15 : decode bb_M_allMated 15 = .ok (.istore_n 2, 1) := by decide +kernel
theorem dd_M_allMated_16 : decode bb_M_allMated 16 = .ok (.iconst 0, 1) := by decide +kernel
theorem dd_M_allMated_17 : decode bb_M_allMated 17 = .ok (.istore_n 3, 1) := by decide +kernel
theorem dd_M_allMated_18 : decode bb_M_allMated 18 = .ok (.iload_n 3, 1) := by decide +kernel
theorem dd_M_allMated_19 : decode bb_M_allMated 19 = .ok (.iload_n 1, 1) := by decide +kernel
theorem dd_M_allMated_20 : decode bb_M_allMated 20 = .ok (.if_icmp .ge 39, 3) := by decide +kernel
theorem dd_M_allMated_23 : decode bb_M_allMated 23 = .ok (.iload_n 2, 1) := by decide +kernel
theorem dd_M_allMated_24 : decode bb_M_allMated 24 = .ok (.ifCond .eq 35, 3) := by decide +kernel
theorem dd_M_allMated_27 : decode bb_M_allMated 27 = .ok (.aload_n 0, 1) := by decide +kernel
theorem dd_M_allMated_28 : decode bb_M_allMated 28 = .ok (.aload_n 0, 1) := by decide +kernel
theorem dd_M_allMated_29 : decode bb_M_allMated 29 = .ok (.getfield 50, 3) := by decide +kernel
theorem dd_M_allMated_32 : decode bb_M_allMated 32 = .ok (.sipush 440, 3) := by decide +kernel
theorem dd_M_allMated_35 : decode bb_M_allMated 35 = .ok (.iload_n 3, 1) := by decide +kernel
theorem dd_M_allMated_36 : decode bb_M_allMated 36 = .ok (.iadd, 1) := by decide +kernel
theorem dd_M_allMated_37 : decode bb_M_allMated 37 = .ok (.iaload, 1) := by decide +kernel
theorem dd_M_allMated_38 : decode bb_M_allMated 38 = .ok (.iconst 1, 1) := by decide +kernel
theorem dd_M_allMated_39 : decode bb_M_allMated 39 = .ok (.invokevirtual 141, 3) := by decide +kernel
theorem dd_M_allMated_42 : decode bb_M_allMated 42 = .ok (.aload_n 0, 1) := by decide +kernel
theorem dd_M_allMated_43 : decode bb_M_allMated 43 = .ok (.iconst 2, 1) := by decide +kernel
theorem dd_M_allMated_44 : decode bb_M_allMated 44 = .ok (.invokevirtual 149, 3) := by decide +kernel
theorem dd_M_allMated_47 : decode bb_M_allMated 47 = .ok (.istore_n 2, 1) := by decide +kernel
theorem dd_M_allMated_48 : decode bb_M_allMated 48 = .ok (.aload_n 0, 1) := by decide +kernel
theorem dd_M_allMated_49 : decode bb_M_allMated 49 = .ok (.iconst 1, 1) := by decide +kernel
theorem dd_M_allMated_50 : decode bb_M_allMated 50 = .ok (.invokevirtual 132, 3) := by decide +kernel
theorem dd_M_allMated_53 : decode bb_M_allMated 53 = .ok (.iinc 3 1, 3) := by decide +kernel
theorem dd_M_allMated_56 : decode bb_M_allMated 56 = .ok (.goto (-38), 3) := by decide +kernel
theorem dd_M_allMated_59 : decode bb_M_allMated 59 = .ok (.iload_n 2, 1) := by decide +kernel
theorem dd_M_allMated_60 : decode bb_M_allMated 60 = .ok (.ireturn, 1) := by decide +kernel
abbrev ty_M_allMated : Type := Int32 × Int32 × Int32 × Int32 × Int32 × (Nat → Int32) × (Nat → Int32) × (Nat → Int32) × (Nat → Int32) × (Nat → Int32) × (Nat → Int32) × (Nat → Int32)
noncomputable def bk_M_allMated_59 (msd : Int32) (mrt : Int32) (mps : Int32) (mqt : Int32) (bd : Nat → Int32) (kp : Nat → Int32) (kS : Nat → Int32) (kR : Nat → Int32) (kP : Nat → Int32) (kQ : Nat → Int32) (li : Nat → Int32) (x2 : Int32) : Option ty_M_allMated := qq_ck (qq_b x2) <| some (x2, msd, mrt, mps, mqt, bd, kp, kS, kR, kP, kQ, li)
noncomputable def lo_M_allMated_18 : Nat → Int32 → Int32 → Int32 → Int32 → (Nat → Int32) → (Nat → Int32) → (Nat → Int32) → (Nat → Int32) → (Nat → Int32) → (Nat → Int32) → (Nat → Int32) → Int32 → Int32 → Int32 → Option ty_M_allMated
  | 0, _, _, _, _, _, _, _, _, _, _, _, _, _, _ => none
  | n + 1, msd, mrt, mps, mqt, bd, kp, kS, kR, kP, kQ, li, x1, x2, x3 => if x1 ≤ x3 then (bk_M_allMated_59 msd mrt mps mqt bd kp kS kR kP kQ li x2) else (if x2 = 0 then (bk_M_allMated_59 msd mrt mps mqt bd kp kS kR kP kQ li x2) else (qq_ck (qq_in (440 + x3) 1320) <| (fn_M_make msd mrt mps mqt bd kp kS kR kP kQ (li (440 + x3).toNatClampNeg) 1).bind fun (msd_2002, mrt_2003, mps_2004, mqt_2005, bd_2006, kp_2007, kS_2008, kR_2009, kP_2010, kQ_2011) => (fn_M_matesAtOnce msd_2002 mrt_2003 mps_2004 mqt_2005 bd_2006 kp_2007 kS_2008 kR_2009 kP_2010 kQ_2011 li 2).bind fun (r2012, msd_2013, mrt_2014, mps_2015, mqt_2016, bd_2017, kp_2018, kS_2019, kR_2020, kP_2021, kQ_2022, li_2023) => (fn_M_back msd_2013 mrt_2014 mps_2015 mqt_2016 bd_2017 kp_2018 kS_2019 kR_2020 kP_2021 kQ_2022 1).bind fun (msd_2024, mrt_2025, mps_2026, mqt_2027, bd_2028) => qq_let (x3 + 1) fun v2029 => (lo_M_allMated_18  n) msd_2024 mrt_2025 mps_2026 mqt_2027 bd_2028 kp_2018 kS_2019 kR_2020 kP_2021 kQ_2022 li_2023 x1 r2012 v2029))
theorem lo_M_allMated_18_z (msd : Int32) (mrt : Int32) (mps : Int32) (mqt : Int32) (bd : Nat → Int32) (kp : Nat → Int32) (kS : Nat → Int32) (kR : Nat → Int32) (kP : Nat → Int32) (kQ : Nat → Int32) (li : Nat → Int32) (x1 : Int32) (x2 : Int32) (x3 : Int32) : lo_M_allMated_18  0 msd mrt mps mqt bd kp kS kR kP kQ li x1 x2 x3 = none := rfl
theorem lo_M_allMated_18_s (msd : Int32) (mrt : Int32) (mps : Int32) (mqt : Int32) (bd : Nat → Int32) (kp : Nat → Int32) (kS : Nat → Int32) (kR : Nat → Int32) (kP : Nat → Int32) (kQ : Nat → Int32) (li : Nat → Int32) (x1 : Int32) (x2 : Int32) (x3 : Int32) (n : Nat) : lo_M_allMated_18  (n + 1) msd mrt mps mqt bd kp kS kR kP kQ li x1 x2 x3 = (if x1 ≤ x3 then (bk_M_allMated_59 msd mrt mps mqt bd kp kS kR kP kQ li x2) else (if x2 = 0 then (bk_M_allMated_59 msd mrt mps mqt bd kp kS kR kP kQ li x2) else (qq_ck (qq_in (440 + x3) 1320) <| (fn_M_make msd mrt mps mqt bd kp kS kR kP kQ (li (440 + x3).toNatClampNeg) 1).bind fun (msd_2002, mrt_2003, mps_2004, mqt_2005, bd_2006, kp_2007, kS_2008, kR_2009, kP_2010, kQ_2011) => (fn_M_matesAtOnce msd_2002 mrt_2003 mps_2004 mqt_2005 bd_2006 kp_2007 kS_2008 kR_2009 kP_2010 kQ_2011 li 2).bind fun (r2012, msd_2013, mrt_2014, mps_2015, mqt_2016, bd_2017, kp_2018, kS_2019, kR_2020, kP_2021, kQ_2022, li_2023) => (fn_M_back msd_2013 mrt_2014 mps_2015 mqt_2016 bd_2017 kp_2018 kS_2019 kR_2020 kP_2021 kQ_2022 1).bind fun (msd_2024, mrt_2025, mps_2026, mqt_2027, bd_2028) => qq_let (x3 + 1) fun v2029 => (lo_M_allMated_18  n) msd_2024 mrt_2025 mps_2026 mqt_2027 bd_2028 kp_2018 kS_2019 kR_2020 kP_2021 kQ_2022 li_2023 x1 r2012 v2029))) := rfl
noncomputable def bk_M_allMated_15 (msd : Int32) (mrt : Int32) (mps : Int32) (mqt : Int32) (bd : Nat → Int32) (kp : Nat → Int32) (kS : Nat → Int32) (kR : Nat → Int32) (kP : Nat → Int32) (kQ : Nat → Int32) (li : Nat → Int32) (x1 : Int32) (s0 : Int32) : Option ty_M_allMated := lo_M_allMated_18 qq_FU msd mrt mps mqt bd kp kS kR kP kQ li x1 s0 0
noncomputable def fn_M_allMated (msd : Int32) (mrt : Int32) (mps : Int32) (mqt : Int32) (bd : Nat → Int32) (kp : Nat → Int32) (kS : Nat → Int32) (kR : Nat → Int32) (kP : Nat → Int32) (kQ : Nat → Int32) (li : Nat → Int32) : Option ty_M_allMated := (fn_M_collect msd mrt mps mqt bd kp kS kR kP kQ li 1).bind fun (r1, msd_2, mrt_3, mps_4, mqt_5, bd_6, kp_7, kS_8, kR_9, kP_10, kQ_11, li_12) => if r1 ≤ 0 then (bk_M_allMated_15 msd_2 mrt_3 mps_4 mqt_5 bd_6 kp_7 kS_8 kR_9 kP_10 kQ_11 li_12 r1 0) else (bk_M_allMated_15 msd_2 mrt_3 mps_4 mqt_5 bd_6 kp_7 kS_8 kR_9 kP_10 kQ_11 li_12 r1 1)
abbrev rm_M_allMated : Room := { frames := 10, cells := 0, slots := 0, locals := 238 }
set_option maxHeartbeats 4000000 in
set_option maxRecDepth 100000 in
theorem ct_M_allMated (l : Launch) (dC : Nat → ClassId) (dI : Nat → Nat → Nat) (cI cL cR : ClassId) (oM obd opa opS opR opG opP opQ okp okS okR okP okQ oli : Nat) (mth : Int32) (mpl : Int32) (msd : Int32) (mrt : Int32) (mps : Int32) (mqt : Int32) (mmd : Int32) (bd : Nat → Int32) (pa : Nat → Int32) (pS : Nat → Int32) (pR : Nat → Int32) (pG : Nat → Int32) (pP : Nat → Int32) (pQ : Nat → Int32) (kp : Nat → Int32) (kS : Nat → Int32) (kR : Nat → Int32) (kP : Nat → Int32) (kQ : Nat → Int32) (li : Nat → Int32) {rr : Int32} {msd' : Int32} {mrt' : Int32} {mps' : Int32} {mqt' : Int32} {bd' : Nat → Int32} {kp' : Nat → Int32} {kS' : Nat → Int32} {kR' : Nat → Int32} {kP' : Nat → Int32} {kQ' : Nat → Int32} {li' : Nat → Int32} (hf : fn_M_allMated msd mrt mps mqt bd kp kS kR kP kQ li = some (rr, msd', mrt', mps', mqt', bd', kp', kS', kR', kP', kQ', li')) : qq_det l yy_M_allMated (ww_of yy_M_allMated bb_M_allMated 4 (some .boolean)) rm_M_allMated (dC, dI) (qq_ty cI cL cR) [.ref oM] [(oM, .inr (5, [.int mth, .int mpl, .ref obd, .int msd, .int mrt, .int mps, .int mqt, .int mmd, .ref opa, .ref opS, .ref opR, .ref opG, .ref opP, .ref opQ, .ref okp, .ref okS, .ref okR, .ref okP, .ref okQ, .ref oli])), (obd, .inl (cI, 64, .inl bd)), (opa, .inl (cI, 9664, .inl pa)), (opS, .inl (cI, 151, .inl pS)), (opR, .inl (cI, 151, .inl pR)), (opG, .inl (cI, 151, .inl pG)), (opP, .inl (cI, 151, .inl pP)), (opQ, .inl (cI, 151, .inl pQ)), (okp, .inl (cI, 256, .inl kp)), (okS, .inl (cI, 4, .inl kS)), (okR, .inl (cI, 4, .inl kR)), (okP, .inl (cI, 4, .inl kP)), (okQ, .inl (cI, 4, .inl kQ)), (oli, .inl (cI, 1320, .inl li))] (some (.int rr)) [(oM, .inr (5, [.int mth, .int mpl, .ref obd, .int msd', .int mrt', .int mps', .int mqt', .int mmd, .ref opa, .ref opS, .ref opR, .ref opG, .ref opP, .ref opQ, .ref okp, .ref okS, .ref okR, .ref okP, .ref okQ, .ref oli])), (obd, .inl (cI, 64, .inl bd')), (opa, .inl (cI, 9664, .inl pa)), (opS, .inl (cI, 151, .inl pS)), (opR, .inl (cI, 151, .inl pR)), (opG, .inl (cI, 151, .inl pG)), (opP, .inl (cI, 151, .inl pP)), (opQ, .inl (cI, 151, .inl pQ)), (okp, .inl (cI, 256, .inl kp')), (okS, .inl (cI, 4, .inl kS')), (okR, .inl (cI, 4, .inl kR')), (okP, .inl (cI, 4, .inl kP')), (okQ, .inl (cI, 4, .inl kQ')), (oli, .inl (cI, 1320, .inl li'))] := by
  refine qq_of (own := RR_M) (by decide) rfl (Nat.le_of_ble_eq_true rfl) ?_
  intro p e s m below meth c A Q ls hx hb hml hr hlocks hown hts hK hA hT hN hP hD hS hl hQ
  have hl : lv_has ls 4 [(0, .ref oM)] := hl
  have hJ59 : ∀ (msd : Int32) (mrt : Int32) (mps : Int32) (mqt : Int32) (bd : Nat → Int32) (kp : Nat → Int32) (kS : Nat → Int32) (kR : Nat → Int32) (kP : Nat → Int32) (kQ : Nat → Int32) (li : Nat → Int32) (x2 : Int32) (H : Heap) (locs : List Loc) (ls : Array Slot), lv_has ls 4 [(2, .int x2)] → va_P (dC, dI) classes [(oM, .inr (5, [.int mth, .int mpl, .ref obd, .int msd, .int mrt, .int mps, .int mqt, .int mmd, .ref opa, .ref opS, .ref opR, .ref opG, .ref opP, .ref opQ, .ref okp, .ref okS, .ref okR, .ref okP, .ref okQ, .ref oli])), (obd, .inl (cI, 64, .inl bd)), (opa, .inl (cI, 9664, .inl pa)), (opS, .inl (cI, 151, .inl pS)), (opR, .inl (cI, 151, .inl pR)), (opG, .inl (cI, 151, .inl pG)), (opP, .inl (cI, 151, .inl pP)), (opQ, .inl (cI, 151, .inl pQ)), (okp, .inl (cI, 256, .inl kp)), (okS, .inl (cI, 4, .inl kS)), (okR, .inl (cI, 4, .inl kR)), (okP, .inl (cI, 4, .inl kP)), (okQ, .inl (cI, 4, .inl kQ)), (oli, .inl (cI, 1320, .inl li))] H → va_D A [(oM, .inr (5, [.int mth, .int mpl, .ref obd, .int msd, .int mrt, .int mps, .int mqt, .int mmd, .ref opa, .ref opS, .ref opR, .ref opG, .ref opP, .ref opQ, .ref okp, .ref okS, .ref okR, .ref okP, .ref okQ, .ref oli])), (obd, .inl (cI, 64, .inl bd)), (opa, .inl (cI, 9664, .inl pa)), (opS, .inl (cI, 151, .inl pS)), (opR, .inl (cI, 151, .inl pR)), (opG, .inl (cI, 151, .inl pG)), (opP, .inl (cI, 151, .inl pP)), (opQ, .inl (cI, 151, .inl pQ)), (okp, .inl (cI, 256, .inl kp)), (okS, .inl (cI, 4, .inl kS)), (okR, .inl (cI, 4, .inl kR)), (okP, .inl (cI, 4, .inl kP)), (okQ, .inl (cI, 4, .inl kQ)), (oli, .inl (cI, 1320, .inl li))] → va_S A s.heap H locs → bk_M_allMated_59 msd mrt mps mqt bd kp kS kR kP kQ li x2 = some (rr, msd', mrt', mps', mqt', bd', kp', kS', kR', kP', kQ', li') → W p l e rm_M_allMated s m ([.ref oM] : List Value).toArray below meth c H locs 0 0 Q (F0 m 59 ls []) := by
    intro msd mrt mps mqt bd kp kS kR kP kQ li x2 H locs ls hl hP hD hS hf
    rw [bk_M_allMated_59] at hf
    refine lv_iload_n hx hb dd_M_allMated_59 rfl (lv_at hl 0 rfl) ?_
    obtain ⟨hzb, hf⟩ := qq_ckE hf
    cases hf
    exact qq_zret hx hb hr (qq_bE hzb) hlocks hQ hP hD hK hS dd_M_allMated_60
  have hL18 : ∀ (n18 : Nat) (msd : Int32) (mrt : Int32) (mps : Int32) (mqt : Int32) (bd : Nat → Int32) (kp : Nat → Int32) (kS : Nat → Int32) (kR : Nat → Int32) (kP : Nat → Int32) (kQ : Nat → Int32) (li : Nat → Int32) (x1 : Int32) (x2 : Int32) (x3 : Int32) (H : Heap) (locs : List Loc) (ls : Array Slot), lv_has ls 4 [(0, .ref oM), (1, .int x1), (2, .int x2), (3, .int x3)] → va_P (dC, dI) classes [(oM, .inr (5, [.int mth, .int mpl, .ref obd, .int msd, .int mrt, .int mps, .int mqt, .int mmd, .ref opa, .ref opS, .ref opR, .ref opG, .ref opP, .ref opQ, .ref okp, .ref okS, .ref okR, .ref okP, .ref okQ, .ref oli])), (obd, .inl (cI, 64, .inl bd)), (opa, .inl (cI, 9664, .inl pa)), (opS, .inl (cI, 151, .inl pS)), (opR, .inl (cI, 151, .inl pR)), (opG, .inl (cI, 151, .inl pG)), (opP, .inl (cI, 151, .inl pP)), (opQ, .inl (cI, 151, .inl pQ)), (okp, .inl (cI, 256, .inl kp)), (okS, .inl (cI, 4, .inl kS)), (okR, .inl (cI, 4, .inl kR)), (okP, .inl (cI, 4, .inl kP)), (okQ, .inl (cI, 4, .inl kQ)), (oli, .inl (cI, 1320, .inl li))] H → va_D A [(oM, .inr (5, [.int mth, .int mpl, .ref obd, .int msd, .int mrt, .int mps, .int mqt, .int mmd, .ref opa, .ref opS, .ref opR, .ref opG, .ref opP, .ref opQ, .ref okp, .ref okS, .ref okR, .ref okP, .ref okQ, .ref oli])), (obd, .inl (cI, 64, .inl bd)), (opa, .inl (cI, 9664, .inl pa)), (opS, .inl (cI, 151, .inl pS)), (opR, .inl (cI, 151, .inl pR)), (opG, .inl (cI, 151, .inl pG)), (opP, .inl (cI, 151, .inl pP)), (opQ, .inl (cI, 151, .inl pQ)), (okp, .inl (cI, 256, .inl kp)), (okS, .inl (cI, 4, .inl kS)), (okR, .inl (cI, 4, .inl kR)), (okP, .inl (cI, 4, .inl kP)), (okQ, .inl (cI, 4, .inl kQ)), (oli, .inl (cI, 1320, .inl li))] → va_S A s.heap H locs → lo_M_allMated_18 n18 msd mrt mps mqt bd kp kS kR kP kQ li x1 x2 x3 = some (rr, msd', mrt', mps', mqt', bd', kp', kS', kR', kP', kQ', li') → W p l e rm_M_allMated s m ([.ref oM] : List Value).toArray below meth c H locs 0 0 Q (F0 m 18 ls []) := by
    intro n18
    induction n18 with
    | zero => exact fun msd mrt mps mqt bd kp kS kR kP kQ li x1 x2 x3 H locs ls hl hP hD hS hf => absurd hf (by rw [lo_M_allMated_18_z]; exact fun h => by cases h)
    | succ n18 ih18 =>
      intro msd mrt mps mqt bd kp kS kR kP kQ li x1 x2 x3 H locs ls hl hP hD hS hf
      rw [lo_M_allMated_18_s] at hf
      refine lv_iload_n hx hb dd_M_allMated_18 rfl (lv_at hl 3 rfl) ?_
      refine lv_iload_n hx hb dd_M_allMated_19 rfl (lv_at hl 1 rfl) ?_
      refine lv_icmp_ge (tgt := 59) hx hb dd_M_allMated_20 (by decide) (fun hc => ?_) (fun hc => ?_)
      · replace hf := qq_t hc hf
        exact hJ59 msd mrt mps mqt bd kp kS kR kP kQ li x2 _ _ _ (lv_sub hl [2] rfl) hP hD hS hf
      · replace hf := qq_f hc hf
        refine lv_iload_n hx hb dd_M_allMated_23 rfl (lv_at hl 2 rfl) ?_
        refine lv_if_eq (tgt := 59) hx hb dd_M_allMated_24 (by decide) (fun hc => ?_) (fun hc => ?_)
        · replace hf := qq_t hc hf
          exact hJ59 msd mrt mps mqt bd kp kS kR kP kQ li x2 _ _ _ (lv_sub hl [2] rfl) hP hD hS hf
        · replace hf := qq_f hc hf
          refine lv_aload_n hx hb dd_M_allMated_27 rfl (lv_at hl 0 rfl) ?_
          refine lv_aload_n hx hb dd_M_allMated_28 rfl (lv_at hl 0 rfl) ?_
          refine va_get (D := (dC, dI)) (ci := 5) (v := .ref oli) (C := RR_M) (T := FF_M) (N := 20) hx hb hts uu_M hown hK hP 0 rfl rfl 19 (by decide) (hts _ mm_293) (fun _ h9 => h9) rfl dd_M_allMated_29 ?_
          refine lv_sipush (v := 440) hx hb dd_M_allMated_32 (by decide) ?_
          refine lv_iload_n hx hb dd_M_allMated_35 rfl (lv_at hl 3 rfl) ?_
          refine lv_iadd hx hb dd_M_allMated_36 ?_
          obtain ⟨hi2001, hf⟩ := qq_ckE hf
          refine va_iald (D := (dC, dI)) (f := li) (n := 1320) (cA := cI) hx hb hK hP 13 0 rfl rfl (qq_inE hi2001) dd_M_allMated_37 ?_
          refine lv_iconst (v := 1) hx hb dd_M_allMated_38 (by decide) ?_
          obtain ⟨⟨msd_2002, mrt_2003, mps_2004, mqt_2005, bd_2006, kp_2007, kS_2008, kR_2009, kP_2010, kQ_2011⟩, hy2011, hf⟩ := qq_bd hf
          dsimp only at hf
          refine qq_V (As := [.int (li (440 + x3).toNatClampNeg), .int 1]) (rest := []) (wr := []) (wf := [(oM, .inr (5, [.int mth, .int mpl, .ref obd, .int msd_2002, .int mrt_2003, .int mps_2004, .int mqt_2005, .int mmd, .ref opa, .ref opS, .ref opR, .ref opG, .ref opP, .ref opQ, .ref okp, .ref okS, .ref okR, .ref okP, .ref okQ, .ref oli])), (obd, .inl (cI, 64, .inl bd_2006)), (opa, .inl (cI, 9664, .inl pa)), (opS, .inl (cI, 151, .inl pS)), (opR, .inl (cI, 151, .inl pR)), (opG, .inl (cI, 151, .inl pG)), (opP, .inl (cI, 151, .inl pP)), (opQ, .inl (cI, 151, .inl pQ)), (okp, .inl (cI, 256, .inl kp_2007)), (okS, .inl (cI, 4, .inl kS_2008)), (okR, .inl (cI, 4, .inl kR_2009)), (okP, .inl (cI, 4, .inl kP_2010)), (okQ, .inl (cI, 4, .inl kQ_2011)), (oli, .inl (cI, 1320, .inl li))]) ⟨hx, hb, hml, hown, hts⟩ (ct_M_make l dC dI cI cL cR oM obd opa opS opR opG opP opQ okp okS okR okP okQ oli mth mpl msd mrt mps mqt mmd bd pa pS pR pG pP pQ kp kS kR kP kQ li (li (440 + x3).toNatClampNeg) 1 hy2011) mm_295 mm_296 mm_297 mm_294 mm_211 hd_M_make (by decide) qq_00 hP hD hK hS hA hT hN (q0 := 0) (ci := 5) rfl rfl [0, 1, 2, 3, 4, 5, 6, 7, 8, 9, 10, 11, 12, 13] [] [0, 1, 2, 3, 4, 5, 6, 7, 8, 9, 10, 11, 12, 13] rfl rfl rfl (by decide) rfl hl.1 rfl (Nat.le_of_ble_eq_true rfl) dd_M_allMated_39 (fun H locs hP hD hS => ?_)
          refine W.eq (g2 := F0 m 42 ls []) rfl ?_
          refine lv_aload_n hx hb dd_M_allMated_42 rfl (lv_at hl 0 rfl) ?_
          refine lv_iconst (v := 2) hx hb dd_M_allMated_43 (by decide) ?_
          obtain ⟨⟨r2012, msd_2013, mrt_2014, mps_2015, mqt_2016, bd_2017, kp_2018, kS_2019, kR_2020, kP_2021, kQ_2022, li_2023⟩, hy2023, hf⟩ := qq_bd hf
          dsimp only at hf
          refine qq_V (As := [.int 2]) (rest := []) (wr := []) (wf := [(oM, .inr (5, [.int mth, .int mpl, .ref obd, .int msd_2013, .int mrt_2014, .int mps_2015, .int mqt_2016, .int mmd, .ref opa, .ref opS, .ref opR, .ref opG, .ref opP, .ref opQ, .ref okp, .ref okS, .ref okR, .ref okP, .ref okQ, .ref oli])), (obd, .inl (cI, 64, .inl bd_2017)), (opa, .inl (cI, 9664, .inl pa)), (opS, .inl (cI, 151, .inl pS)), (opR, .inl (cI, 151, .inl pR)), (opG, .inl (cI, 151, .inl pG)), (opP, .inl (cI, 151, .inl pP)), (opQ, .inl (cI, 151, .inl pQ)), (okp, .inl (cI, 256, .inl kp_2018)), (okS, .inl (cI, 4, .inl kS_2019)), (okR, .inl (cI, 4, .inl kR_2020)), (okP, .inl (cI, 4, .inl kP_2021)), (okQ, .inl (cI, 4, .inl kQ_2022)), (oli, .inl (cI, 1320, .inl li_2023))]) ⟨hx, hb, hml, hown, hts⟩ (ct_M_matesAtOnce l dC dI cI cL cR oM obd opa opS opR opG opP opQ okp okS okR okP okQ oli mth mpl msd_2002 mrt_2003 mps_2004 mqt_2005 mmd bd_2006 pa pS pR pG pP pQ kp_2007 kS_2008 kR_2009 kP_2010 kQ_2011 li 2 hy2023) mm_307 mm_308 mm_309 mm_306 mm_211 hd_M_matesAtOnce (by decide) qq_00 hP hD hK hS hA hT hN (q0 := 0) (ci := 5) rfl rfl [0, 1, 2, 3, 4, 5, 6, 7, 8, 9, 10, 11, 12, 13] [] [0, 1, 2, 3, 4, 5, 6, 7, 8, 9, 10, 11, 12, 13] rfl rfl rfl (by decide) rfl hl.1 rfl (Nat.le_of_ble_eq_true rfl) dd_M_allMated_44 (fun H locs hP hD hS => ?_)
          refine W.eq (g2 := F0 m 47 ls [.int r2012]) rfl ?_
          refine lv_istore_n (lv' := [(2, .int r2012), (0, .ref oM), (1, .int x1), (3, .int x3)]) hx hb dd_M_allMated_47 rfl hl (by decide) rfl (fun ls hl => ?_)
          refine lv_aload_n hx hb dd_M_allMated_48 rfl (lv_at hl 1 rfl) ?_
          refine lv_iconst (v := 1) hx hb dd_M_allMated_49 (by decide) ?_
          obtain ⟨⟨msd_2024, mrt_2025, mps_2026, mqt_2027, bd_2028⟩, hy2028, hf⟩ := qq_bd hf
          dsimp only at hf
          refine qq_V (As := [.int 1]) (rest := []) (wr := []) (wf := [(oM, .inr (5, [.int mth, .int mpl, .ref obd, .int msd_2024, .int mrt_2025, .int mps_2026, .int mqt_2027, .int mmd, .ref opa, .ref opS, .ref opR, .ref opG, .ref opP, .ref opQ, .ref okp, .ref okS, .ref okR, .ref okP, .ref okQ, .ref oli])), (obd, .inl (cI, 64, .inl bd_2028)), (opa, .inl (cI, 9664, .inl pa)), (opS, .inl (cI, 151, .inl pS)), (opR, .inl (cI, 151, .inl pR)), (opG, .inl (cI, 151, .inl pG)), (opP, .inl (cI, 151, .inl pP)), (opQ, .inl (cI, 151, .inl pQ)), (okp, .inl (cI, 256, .inl kp_2018)), (okS, .inl (cI, 4, .inl kS_2019)), (okR, .inl (cI, 4, .inl kR_2020)), (okP, .inl (cI, 4, .inl kP_2021)), (okQ, .inl (cI, 4, .inl kQ_2022)), (oli, .inl (cI, 1320, .inl li_2023))]) ⟨hx, hb, hml, hown, hts⟩ (ct_M_back l dC dI cI cL cR oM obd opa opS opR opG opP opQ okp okS okR okP okQ oli mth mpl msd_2013 mrt_2014 mps_2015 mqt_2016 mmd bd_2017 pa pS pR pG pP pQ kp_2018 kS_2019 kR_2020 kP_2021 kQ_2022 li_2023 1 hy2028) mm_274 mm_275 mm_276 mm_273 mm_211 hd_M_back (by decide) qq_00 hP hD hK hS hA hT hN (q0 := 0) (ci := 5) rfl rfl [0, 1, 2, 3, 4, 5, 6, 7, 8, 9, 10, 11, 12, 13] [] [0, 1, 2, 3, 4, 5, 6, 7, 8, 9, 10, 11, 12, 13] rfl rfl rfl (by decide) rfl hl.1 rfl (Nat.le_of_ble_eq_true rfl) dd_M_allMated_50 (fun H locs hP hD hS => ?_)
          refine W.eq (g2 := F0 m 53 ls []) rfl ?_
          obtain ⟨v2029, ev2029⟩ : ∃ z, z = x3 + 1 := ⟨_, rfl⟩
          replace hf := qq_lt ev2029 hf
          refine lv_iinc (k := 3) (v := v2029) (lv' := [(3, .int v2029), (2, .int r2012), (0, .ref oM), (1, .int x1)]) hx hb dd_M_allMated_53 hl rfl (by rw [ev2029]; exact congrArg _ (by decide)) (by decide) rfl (fun ls hl => ?_)
          refine lv_goto (tgt := 18) hx hb dd_M_allMated_56 (by decide) ?_
          exact ih18 msd_2024 mrt_2025 mps_2026 mqt_2027 bd_2028 kp_2018 kS_2019 kR_2020 kP_2021 kQ_2022 li_2023 x1 r2012 v2029 _ _ _ (lv_sub hl [2, 3, 1, 0] rfl) hP hD hS hf
  have hJ15 : ∀ (msd : Int32) (mrt : Int32) (mps : Int32) (mqt : Int32) (bd : Nat → Int32) (kp : Nat → Int32) (kS : Nat → Int32) (kR : Nat → Int32) (kP : Nat → Int32) (kQ : Nat → Int32) (li : Nat → Int32) (x1 : Int32) (s0 : Int32) (H : Heap) (locs : List Loc) (ls : Array Slot), lv_has ls 4 [(0, .ref oM), (1, .int x1)] → va_P (dC, dI) classes [(oM, .inr (5, [.int mth, .int mpl, .ref obd, .int msd, .int mrt, .int mps, .int mqt, .int mmd, .ref opa, .ref opS, .ref opR, .ref opG, .ref opP, .ref opQ, .ref okp, .ref okS, .ref okR, .ref okP, .ref okQ, .ref oli])), (obd, .inl (cI, 64, .inl bd)), (opa, .inl (cI, 9664, .inl pa)), (opS, .inl (cI, 151, .inl pS)), (opR, .inl (cI, 151, .inl pR)), (opG, .inl (cI, 151, .inl pG)), (opP, .inl (cI, 151, .inl pP)), (opQ, .inl (cI, 151, .inl pQ)), (okp, .inl (cI, 256, .inl kp)), (okS, .inl (cI, 4, .inl kS)), (okR, .inl (cI, 4, .inl kR)), (okP, .inl (cI, 4, .inl kP)), (okQ, .inl (cI, 4, .inl kQ)), (oli, .inl (cI, 1320, .inl li))] H → va_D A [(oM, .inr (5, [.int mth, .int mpl, .ref obd, .int msd, .int mrt, .int mps, .int mqt, .int mmd, .ref opa, .ref opS, .ref opR, .ref opG, .ref opP, .ref opQ, .ref okp, .ref okS, .ref okR, .ref okP, .ref okQ, .ref oli])), (obd, .inl (cI, 64, .inl bd)), (opa, .inl (cI, 9664, .inl pa)), (opS, .inl (cI, 151, .inl pS)), (opR, .inl (cI, 151, .inl pR)), (opG, .inl (cI, 151, .inl pG)), (opP, .inl (cI, 151, .inl pP)), (opQ, .inl (cI, 151, .inl pQ)), (okp, .inl (cI, 256, .inl kp)), (okS, .inl (cI, 4, .inl kS)), (okR, .inl (cI, 4, .inl kR)), (okP, .inl (cI, 4, .inl kP)), (okQ, .inl (cI, 4, .inl kQ)), (oli, .inl (cI, 1320, .inl li))] → va_S A s.heap H locs → bk_M_allMated_15 msd mrt mps mqt bd kp kS kR kP kQ li x1 s0 = some (rr, msd', mrt', mps', mqt', bd', kp', kS', kR', kP', kQ', li') → W p l e rm_M_allMated s m ([.ref oM] : List Value).toArray below meth c H locs 0 0 Q (F0 m 15 ls [.int s0]) := by
    intro msd mrt mps mqt bd kp kS kR kP kQ li x1 s0 H locs ls hl hP hD hS hf
    rw [bk_M_allMated_15] at hf
    refine lv_istore_n (lv' := [(2, .int s0), (0, .ref oM), (1, .int x1)]) hx hb dd_M_allMated_15 rfl hl (by decide) rfl (fun ls hl => ?_)
    refine lv_iconst (v := 0) hx hb dd_M_allMated_16 (by decide) ?_
    refine lv_istore_n (lv' := [(3, .int 0), (2, .int s0), (0, .ref oM), (1, .int x1)]) hx hb dd_M_allMated_17 rfl hl (by decide) rfl (fun ls hl => ?_)
    exact hL18 qq_FU msd mrt mps mqt bd kp kS kR kP kQ li x1 s0 0 _ _ _ (lv_sub hl [2, 3, 1, 0] rfl) hP hD hS hf
  rw [fn_M_allMated] at hf
  refine lv_aload_n hx hb dd_M_allMated_0 rfl (lv_at hl 0 rfl) ?_
  refine lv_iconst (v := 1) hx hb dd_M_allMated_1 (by decide) ?_
  obtain ⟨⟨r1, msd_2, mrt_3, mps_4, mqt_5, bd_6, kp_7, kS_8, kR_9, kP_10, kQ_11, li_12⟩, hy12, hf⟩ := qq_bd hf
  dsimp only at hf
  refine qq_V (As := [.int 1]) (rest := []) (wr := []) (wf := [(oM, .inr (5, [.int mth, .int mpl, .ref obd, .int msd_2, .int mrt_3, .int mps_4, .int mqt_5, .int mmd, .ref opa, .ref opS, .ref opR, .ref opG, .ref opP, .ref opQ, .ref okp, .ref okS, .ref okR, .ref okP, .ref okQ, .ref oli])), (obd, .inl (cI, 64, .inl bd_6)), (opa, .inl (cI, 9664, .inl pa)), (opS, .inl (cI, 151, .inl pS)), (opR, .inl (cI, 151, .inl pR)), (opG, .inl (cI, 151, .inl pG)), (opP, .inl (cI, 151, .inl pP)), (opQ, .inl (cI, 151, .inl pQ)), (okp, .inl (cI, 256, .inl kp_7)), (okS, .inl (cI, 4, .inl kS_8)), (okR, .inl (cI, 4, .inl kR_9)), (okP, .inl (cI, 4, .inl kP_10)), (okQ, .inl (cI, 4, .inl kQ_11)), (oli, .inl (cI, 1320, .inl li_12))]) ⟨hx, hb, hml, hown, hts⟩ (ct_M_collect l dC dI cI cL cR oM obd opa opS opR opG opP opQ okp okS okR okP okQ oli mth mpl msd mrt mps mqt mmd bd pa pS pR pG pP pQ kp kS kR kP kQ li 1 hy12) mm_303 mm_304 mm_305 mm_302 mm_211 hd_M_collect (by decide) qq_00 hP hD hK hS hA hT hN (q0 := 0) (ci := 5) rfl rfl [0, 1, 2, 3, 4, 5, 6, 7, 8, 9, 10, 11, 12, 13] [] [0, 1, 2, 3, 4, 5, 6, 7, 8, 9, 10, 11, 12, 13] rfl rfl rfl (by decide) rfl hl.1 rfl (Nat.le_of_ble_eq_true rfl) dd_M_allMated_2 (fun H locs hP hD hS => ?_)
  refine W.eq (g2 := F0 m 5 ls [.int r1]) rfl ?_
  refine lv_istore_n (lv' := [(1, .int r1), (0, .ref oM)]) hx hb dd_M_allMated_5 rfl hl (by decide) rfl (fun ls hl => ?_)
  refine lv_iload_n hx hb dd_M_allMated_6 rfl (lv_at hl 0 rfl) ?_
  refine lv_if_le (tgt := 14) hx hb dd_M_allMated_7 (by decide) (fun hc => ?_) (fun hc => ?_)
  · replace hf := qq_t hc hf
    refine lv_iconst (v := 0) hx hb dd_M_allMated_14 (by decide) ?_
    exact hJ15 msd_2 mrt_3 mps_4 mqt_5 bd_6 kp_7 kS_8 kR_9 kP_10 kQ_11 li_12 r1 0 _ _ _ (lv_sub hl [1, 0] rfl) hP hD hS hf
  · replace hf := qq_f hc hf
    refine lv_iconst (v := 1) hx hb dd_M_allMated_10 (by decide) ?_
    refine lv_goto (tgt := 15) hx hb dd_M_allMated_11 (by decide) ?_
    exact hJ15 msd_2 mrt_3 mps_4 mqt_5 bd_6 kp_7 kS_8 kR_9 kP_10 kQ_11 li_12 r1 1 _ _ _ (lv_sub hl [1, 0] rfl) hP hD hS hf
theorem dd_M_areRights_0 : decode bb_M_areRights 0 = .ok (.iconst 1, 1) := by decide +kernel
theorem dd_M_areRights_1 : decode bb_M_areRights 1 = .ok (.istore_n 2, 1) := by decide +kernel
theorem dd_M_areRights_2 : decode bb_M_areRights 2 = .ok (.iconst 0, 1) := by decide +kernel
theorem dd_M_areRights_3 : decode bb_M_areRights 3 = .ok (.istore_n 3, 1) := by decide +kernel
theorem dd_M_areRights_4 : decode bb_M_areRights 4 = .ok (.iload_n 3, 1) := by decide +kernel
theorem dd_M_areRights_5 : decode bb_M_areRights 5 = .ok (.iconst 4, 1) := by decide +kernel
theorem dd_M_areRights_6 : decode bb_M_areRights 6 = .ok (.if_icmp .ge 100, 3) := by decide +kernel
theorem dd_M_areRights_9 : decode bb_M_areRights 9 = .ok (.iload_n 3, 1) := by decide +kernel
theorem dd_M_areRights_10 : decode bb_M_areRights 10 = .ok (.iconst 2, 1) := by decide +kernel
theorem dd_M_areRights_11 : decode bb_M_areRights 11 = .ok (.idiv, 1) := by decide +kernel
theorem dd_M_areRights_12 : decode bb_M_areRights 12 = .ok (.istore 4, 2) := by decide +kernel
theorem dd_M_areRights_14 : decode bb_M_areRights 14 = .ok (.aload_n 0, 1) := by decide +kernel
theorem dd_M_areRights_15 : decode bb_M_areRights 15 = .ok (.getfield 7, 3) := by decide +kernel
theorem dd_M_areRights_18 : decode bb_M_areRights 18 = .ok (.bipush 56, 2) := by decide +kernel
theorem dd_M_areRights_20 : decode bb_M_areRights 20 = .ok (.iload 4, 2) := by decide +kernel
theorem dd_M_areRights_22 : decode bb_M_areRights 22 = .ok (.imul, 1) := by decide +kernel
theorem dd_M_areRights_23 : decode bb_M_areRights 23 = .ok (.iconst 4, 1) := by decide +kernel
theorem dd_M_areRights_24 : decode bb_M_areRights 24 = .ok (.iadd, 1) := by decide +kernel
theorem dd_M_areRights_25 : decode bb_M_areRights 25 = .ok (.iaload, 1) := by decide +kernel
theorem dd_M_areRights_26 : decode bb_M_areRights 26 = .ok (.bipush 6, 2) := by decide +kernel
theorem dd_M_areRights_28 : decode bb_M_areRights 28 = .ok (.bipush 6, 2) := by decide +kernel
theorem dd_M_areRights_30 : decode bb_M_areRights 30 = .ok (.iload 4, 2) := by decide +kernel
theorem dd_M_areRights_32 : decode bb_M_areRights 32 = .ok (.imul, 1) := by decide +kernel
theorem dd_M_areRights_33 : decode bb_M_areRights 33 = .ok (.iadd, 1) := by decide +kernel
theorem dd_M_areRights_34 : decode bb_M_areRights 34 = .ok (.if_icmp .ne 40, 3) := by decide +kernel
theorem dd_M_areRights_37 : decode bb_M_areRights 37 = .ok (.aload_n 0, 1) := by decide +kernel
theorem dd_M_areRights_38 : decode bb_M_areRights 38 = .ok (.getfield 7, 3) := by decide +kernel
theorem dd_M_areRights_41 : decode bb_M_areRights 41 = .ok (.bipush 56, 2) := by decide +kernel
theorem dd_M_areRights_43 : decode bb_M_areRights 43 = .ok (.iload 4, 2) := by decide +kernel
theorem dd_M_areRights_45 : decode bb_M_areRights 45 = .ok (.imul, 1) := by decide +kernel
theorem dd_M_areRights_46 : decode bb_M_areRights 46 = .ok (.iload_n 3, 1) := by decide +kernel
theorem dd_M_areRights_47 : decode bb_M_areRights 47 = .ok (.iconst 2, 1) := by decide +kernel
theorem dd_M_areRights_48 : decode bb_M_areRights 48 = .ok (.irem, 1) := by decide +kernel
theorem dd_M_areRights_49 : decode bb_M_areRights 49 = .ok (.ifCond .ne 8, 3) := by decide +kernel
theorem dd_M_areRights_52 : decode bb_M_areRights 52 = .ok (.bipush 7, 2) := by decide +kernel
theorem dd_M_areRights_54 : decode bb_M_areRights 54 = .ok (.goto 4, 3) := by decide +kernel
theorem dd_M_areRights_57 : decode bb_M_areRights 57 = .ok (.iconst 0, 1) := by decide +kernel
theorem dd_M_areRights_58 : decode bb_M_areRights 58 = .ok (.iadd, 1) := by decide +kernel
theorem dd_M_areRights_59 : decode bb_M_areRights 59 = .ok (.iaload, 1) := by decide +kernel
theorem dd_M_areRights_60 : decode bb_M_areRights 60 = .ok (.iconst 4, 1) := by decide +kernel
theorem dd_M_areRights_61 : decode bb_M_areRights 61 = .ok (.bipush 6, 2) := by decide +kernel
theorem dd_M_areRights_63 : decode bb_M_areRights 63 = .ok (.iload 4, 2) := by decide +kernel
theorem dd_M_areRights_65 : decode bb_M_areRights 65 = .ok (.imul, 1) := by decide +kernel
theorem dd_M_areRights_66 : decode bb_M_areRights 66 = .ok (.iadd, 1) := by decide +kernel
theorem dd_M_areRights_67 : decode bb_M_areRights 67 = .ok (.if_icmp .ne 7, 3) := by decide +kernel
theorem dd_M_areRights_70 : decode bb_M_areRights 70 = .ok (.iconst 1, 1) := by decide +kernel
theorem dd_M_areRights_71 : decode bb_M_areRights 71 = .ok (.goto 4, 3) := by decide +kernel
theorem dd_M_areRights_74 : decode bb_M_areRights 74 = .ok (.iconst 0, 1) := by decide +kernel
theorem dd_M_areRights_75 : decode bb_M_areRights 75 = .ok (.istore 5, 2) := by decide +kernel
theorem dd_M_areRights_77 : decode bb_M_areRights 77 = .ok (.iload_n 2, 1) := by decide +kernel
theorem dd_M_areRights_78 : decode bb_M_areRights 78 = .ok (.ifCond .eq 20, 3) := by decide +kernel
theorem dd_M_areRights_81 : decode bb_M_areRights 81 = .ok (.iload_n 1, 1) := by decide +kernel
theorem dd_M_areRights_82 : decode bb_M_areRights 82 = .ok (.iload_n 3, 1) := by decide +kernel
theorem dd_M_areRights_83 : decode bb_M_areRights 83 = .ok (.ishr, 1) := by decide +kernel
theorem dd_M_areRights_84 : decode bb_M_areRights 84 = .ok (.iconst 1, 1) := by decide +kernel
theorem dd_M_areRights_85 : decode bb_M_areRights 85 = .ok (.iand, 1) := by decide +kernel
theorem dd_M_areRights_86 : decode bb_M_areRights 86 = .ok (.ifCond .eq 8, 3) := by decide +kernel
theorem dd_M_areRights_89 : decode bb_M_areRights 89 = .ok (.iload 5, 2) := by decide +kernel
theorem dd_M_areRights_91 : decode bb_M_areRights 91 = .ok (.ifCond .eq 7, 3) := by decide +kernel
theorem dd_M_areRights_94 : decode bb_M_areRights 94 = .ok (.iconst 1, 1) := by decide +kernel
theorem dd_M_areRights_95 : decode bb_M_areRights 95 = .ok (.goto 4, 3) := by decide +kernel
theorem dd_M_areRights_98 : decode bb_M_areRights 98 = .ok (.iconst 0, 1) := by decide +kernel
theorem dd_M_areRights_99 : decode bb_M_areRights 99 = .ok (.istore_n 2, 1) := by decide +kernel
theorem dd_M_areRights_100 : decode bb_M_areRights 100 = .ok (.iinc 3 1, 3) := by decide +kernel
theorem dd_M_areRights_103 : decode bb_M_areRights 103 = .ok (.goto (-99), 3) := by decide +kernel
theorem dd_M_areRights_106 : decode bb_M_areRights 106 = .ok (.iload_n 2, 1) := by decide +kernel
theorem dd_M_areRights_107 : decode bb_M_areRights 107 = .ok (.ireturn, 1) := by decide +kernel
abbrev ty_M_areRights : Type := Int32
noncomputable def bk_M_areRights_99 (bd : Nat → Int32) (a1 : Int32) (k4 : Int32 → Int32 → Option ty_M_areRights) (x3 : Int32) (s0 : Int32) : Option ty_M_areRights := qq_let (x3 + 1) fun v1001 => k4 s0 v1001
noncomputable def bk_M_areRights_98 (bd : Nat → Int32) (a1 : Int32) (k4 : Int32 → Int32 → Option ty_M_areRights) (x3 : Int32) : Option ty_M_areRights := bk_M_areRights_99 bd a1 k4 x3 0
noncomputable def bk_M_areRights_94 (bd : Nat → Int32) (a1 : Int32) (k4 : Int32 → Int32 → Option ty_M_areRights) (x3 : Int32) : Option ty_M_areRights := bk_M_areRights_99 bd a1 k4 x3 1
noncomputable def bk_M_areRights_75 (bd : Nat → Int32) (a1 : Int32) (k4 : Int32 → Int32 → Option ty_M_areRights) (x2 : Int32) (x3 : Int32) (s0 : Int32) : Option ty_M_areRights := if x2 = 0 then (bk_M_areRights_98 bd a1 k4 x3) else (if ((a1 >>> (x3 &&& 31)) &&& 1) = 0 then (bk_M_areRights_94 bd a1 k4 x3) else (if s0 = 0 then (bk_M_areRights_98 bd a1 k4 x3) else (bk_M_areRights_94 bd a1 k4 x3)))
noncomputable def bk_M_areRights_74 (bd : Nat → Int32) (a1 : Int32) (k4 : Int32 → Int32 → Option ty_M_areRights) (x2 : Int32) (x3 : Int32) : Option ty_M_areRights := bk_M_areRights_75 bd a1 k4 x2 x3 0
noncomputable def bk_M_areRights_58 (bd : Nat → Int32) (a1 : Int32) (k4 : Int32 → Int32 → Option ty_M_areRights) (x2 : Int32) (x3 : Int32) (x4 : Int32) (s1 : Int32) (s2 : Int32) : Option ty_M_areRights := qq_ck (qq_in (s1 + s2) 64) <| if (bd (s1 + s2).toNatClampNeg) = (4 + (6 * x4)) then (bk_M_areRights_75 bd a1 k4 x2 x3 1) else (bk_M_areRights_74 bd a1 k4 x2 x3)
noncomputable def lo_M_areRights_4 (bd : Nat → Int32) (a1 : Int32) : Nat → Int32 → Int32 → Option ty_M_areRights
  | 0, _, _ => none
  | n + 1, x2, x3 => if 4 ≤ x3 then (qq_ck (qq_b x2) <| some x2) else (qq_let (x3 / 2) fun v7001 => qq_ck (qq_in ((56 * v7001) + 4) 64) <| if (bd ((56 * v7001) + 4).toNatClampNeg) = (6 + (6 * v7001)) then (if (x3 - x3 / 2 * 2) = 0 then (bk_M_areRights_58 bd a1 (lo_M_areRights_4 bd a1 n) x2 x3 v7001 (56 * v7001) 7) else (bk_M_areRights_58 bd a1 (lo_M_areRights_4 bd a1 n) x2 x3 v7001 (56 * v7001) 0)) else (bk_M_areRights_74 bd a1 (lo_M_areRights_4 bd a1 n) x2 x3))
theorem lo_M_areRights_4_z (bd : Nat → Int32) (a1 : Int32) (x2 : Int32) (x3 : Int32) : lo_M_areRights_4 bd a1 0 x2 x3 = none := rfl
theorem lo_M_areRights_4_s (bd : Nat → Int32) (a1 : Int32) (x2 : Int32) (x3 : Int32) (n : Nat) : lo_M_areRights_4 bd a1 (n + 1) x2 x3 = (if 4 ≤ x3 then (qq_ck (qq_b x2) <| some x2) else (qq_let (x3 / 2) fun v7001 => qq_ck (qq_in ((56 * v7001) + 4) 64) <| if (bd ((56 * v7001) + 4).toNatClampNeg) = (6 + (6 * v7001)) then (if (x3 - x3 / 2 * 2) = 0 then (bk_M_areRights_58 bd a1 (lo_M_areRights_4 bd a1 n) x2 x3 v7001 (56 * v7001) 7) else (bk_M_areRights_58 bd a1 (lo_M_areRights_4 bd a1 n) x2 x3 v7001 (56 * v7001) 0)) else (bk_M_areRights_74 bd a1 (lo_M_areRights_4 bd a1 n) x2 x3))) := rfl
noncomputable def fn_M_areRights (bd : Nat → Int32) (a1 : Int32) : Option ty_M_areRights := lo_M_areRights_4 bd a1 qq_FU 1 0
abbrev rm_M_areRights : Room := { frames := 0, cells := 0, slots := 0, locals := 0 }
set_option maxHeartbeats 4000000 in
set_option maxRecDepth 100000 in
theorem ct_M_areRights (l : Launch) (dC : Nat → ClassId) (dI : Nat → Nat → Nat) (cI cL cR : ClassId) (oM obd opa opS opR opG opP opQ okp okS okR okP okQ oli : Nat) (mth : Int32) (mpl : Int32) (msd : Int32) (mrt : Int32) (mps : Int32) (mqt : Int32) (mmd : Int32) (bd : Nat → Int32) (pa : Nat → Int32) (pS : Nat → Int32) (pR : Nat → Int32) (pG : Nat → Int32) (pP : Nat → Int32) (pQ : Nat → Int32) (kp : Nat → Int32) (kS : Nat → Int32) (kR : Nat → Int32) (kP : Nat → Int32) (kQ : Nat → Int32) (li : Nat → Int32) (a1 : Int32) {rr : Int32} (hf : fn_M_areRights bd a1 = some rr) : qq_det l yy_M_areRights (ww_of yy_M_areRights bb_M_areRights 6 (some .boolean)) rm_M_areRights (dC, dI) (qq_ty cI cL cR) [.ref oM, .int a1] [(oM, .inr (5, [.int mth, .int mpl, .ref obd, .int msd, .int mrt, .int mps, .int mqt, .int mmd, .ref opa, .ref opS, .ref opR, .ref opG, .ref opP, .ref opQ, .ref okp, .ref okS, .ref okR, .ref okP, .ref okQ, .ref oli])), (obd, .inl (cI, 64, .inl bd)), (opa, .inl (cI, 9664, .inl pa)), (opS, .inl (cI, 151, .inl pS)), (opR, .inl (cI, 151, .inl pR)), (opG, .inl (cI, 151, .inl pG)), (opP, .inl (cI, 151, .inl pP)), (opQ, .inl (cI, 151, .inl pQ)), (okp, .inl (cI, 256, .inl kp)), (okS, .inl (cI, 4, .inl kS)), (okR, .inl (cI, 4, .inl kR)), (okP, .inl (cI, 4, .inl kP)), (okQ, .inl (cI, 4, .inl kQ)), (oli, .inl (cI, 1320, .inl li))] (some (.int rr)) [(oM, .inr (5, [.int mth, .int mpl, .ref obd, .int msd, .int mrt, .int mps, .int mqt, .int mmd, .ref opa, .ref opS, .ref opR, .ref opG, .ref opP, .ref opQ, .ref okp, .ref okS, .ref okR, .ref okP, .ref okQ, .ref oli])), (obd, .inl (cI, 64, .inl bd)), (opa, .inl (cI, 9664, .inl pa)), (opS, .inl (cI, 151, .inl pS)), (opR, .inl (cI, 151, .inl pR)), (opG, .inl (cI, 151, .inl pG)), (opP, .inl (cI, 151, .inl pP)), (opQ, .inl (cI, 151, .inl pQ)), (okp, .inl (cI, 256, .inl kp)), (okS, .inl (cI, 4, .inl kS)), (okR, .inl (cI, 4, .inl kR)), (okP, .inl (cI, 4, .inl kP)), (okQ, .inl (cI, 4, .inl kQ)), (oli, .inl (cI, 1320, .inl li))] := by
  refine qq_of (own := RR_M) (by decide) rfl (Nat.le_of_ble_eq_true rfl) ?_
  intro p e s m below meth c A Q ls hx hb hml hr hlocks hown hts hK hA hT hN hP hD hS hl hQ
  have hl : lv_has ls 6 [(0, .ref oM), (1, .int a1)] := hl
  have hL4 : ∀ (n4 : Nat) (x2 : Int32) (x3 : Int32) (H : Heap) (locs : List Loc) (ls : Array Slot), lv_has ls 6 [(0, .ref oM), (1, .int a1), (2, .int x2), (3, .int x3)] → va_P (dC, dI) classes [(oM, .inr (5, [.int mth, .int mpl, .ref obd, .int msd, .int mrt, .int mps, .int mqt, .int mmd, .ref opa, .ref opS, .ref opR, .ref opG, .ref opP, .ref opQ, .ref okp, .ref okS, .ref okR, .ref okP, .ref okQ, .ref oli])), (obd, .inl (cI, 64, .inl bd)), (opa, .inl (cI, 9664, .inl pa)), (opS, .inl (cI, 151, .inl pS)), (opR, .inl (cI, 151, .inl pR)), (opG, .inl (cI, 151, .inl pG)), (opP, .inl (cI, 151, .inl pP)), (opQ, .inl (cI, 151, .inl pQ)), (okp, .inl (cI, 256, .inl kp)), (okS, .inl (cI, 4, .inl kS)), (okR, .inl (cI, 4, .inl kR)), (okP, .inl (cI, 4, .inl kP)), (okQ, .inl (cI, 4, .inl kQ)), (oli, .inl (cI, 1320, .inl li))] H → va_D A [(oM, .inr (5, [.int mth, .int mpl, .ref obd, .int msd, .int mrt, .int mps, .int mqt, .int mmd, .ref opa, .ref opS, .ref opR, .ref opG, .ref opP, .ref opQ, .ref okp, .ref okS, .ref okR, .ref okP, .ref okQ, .ref oli])), (obd, .inl (cI, 64, .inl bd)), (opa, .inl (cI, 9664, .inl pa)), (opS, .inl (cI, 151, .inl pS)), (opR, .inl (cI, 151, .inl pR)), (opG, .inl (cI, 151, .inl pG)), (opP, .inl (cI, 151, .inl pP)), (opQ, .inl (cI, 151, .inl pQ)), (okp, .inl (cI, 256, .inl kp)), (okS, .inl (cI, 4, .inl kS)), (okR, .inl (cI, 4, .inl kR)), (okP, .inl (cI, 4, .inl kP)), (okQ, .inl (cI, 4, .inl kQ)), (oli, .inl (cI, 1320, .inl li))] → va_S A s.heap H locs → lo_M_areRights_4 bd a1 n4 x2 x3 = some rr → W p l e rm_M_areRights s m ([.ref oM, .int a1] : List Value).toArray below meth c H locs 0 0 Q (F0 m 4 ls []) := by
    intro n4
    induction n4 with
    | zero => exact fun x2 x3 H locs ls hl hP hD hS hf => absurd hf (by rw [lo_M_areRights_4_z]; exact fun h => by cases h)
    | succ n4 ih4 =>
      have hJ99 : ∀ (x3 : Int32) (s0 : Int32) (H : Heap) (locs : List Loc) (ls : Array Slot), lv_has ls 6 [(0, .ref oM), (1, .int a1), (3, .int x3)] → va_P (dC, dI) classes [(oM, .inr (5, [.int mth, .int mpl, .ref obd, .int msd, .int mrt, .int mps, .int mqt, .int mmd, .ref opa, .ref opS, .ref opR, .ref opG, .ref opP, .ref opQ, .ref okp, .ref okS, .ref okR, .ref okP, .ref okQ, .ref oli])), (obd, .inl (cI, 64, .inl bd)), (opa, .inl (cI, 9664, .inl pa)), (opS, .inl (cI, 151, .inl pS)), (opR, .inl (cI, 151, .inl pR)), (opG, .inl (cI, 151, .inl pG)), (opP, .inl (cI, 151, .inl pP)), (opQ, .inl (cI, 151, .inl pQ)), (okp, .inl (cI, 256, .inl kp)), (okS, .inl (cI, 4, .inl kS)), (okR, .inl (cI, 4, .inl kR)), (okP, .inl (cI, 4, .inl kP)), (okQ, .inl (cI, 4, .inl kQ)), (oli, .inl (cI, 1320, .inl li))] H → va_D A [(oM, .inr (5, [.int mth, .int mpl, .ref obd, .int msd, .int mrt, .int mps, .int mqt, .int mmd, .ref opa, .ref opS, .ref opR, .ref opG, .ref opP, .ref opQ, .ref okp, .ref okS, .ref okR, .ref okP, .ref okQ, .ref oli])), (obd, .inl (cI, 64, .inl bd)), (opa, .inl (cI, 9664, .inl pa)), (opS, .inl (cI, 151, .inl pS)), (opR, .inl (cI, 151, .inl pR)), (opG, .inl (cI, 151, .inl pG)), (opP, .inl (cI, 151, .inl pP)), (opQ, .inl (cI, 151, .inl pQ)), (okp, .inl (cI, 256, .inl kp)), (okS, .inl (cI, 4, .inl kS)), (okR, .inl (cI, 4, .inl kR)), (okP, .inl (cI, 4, .inl kP)), (okQ, .inl (cI, 4, .inl kQ)), (oli, .inl (cI, 1320, .inl li))] → va_S A s.heap H locs → bk_M_areRights_99 bd a1 (lo_M_areRights_4 bd a1 n4) x3 s0 = some rr → W p l e rm_M_areRights s m ([.ref oM, .int a1] : List Value).toArray below meth c H locs 0 0 Q (F0 m 99 ls [.int s0]) := by
        intro x3 s0 H locs ls hl hP hD hS hf
        rw [bk_M_areRights_99] at hf
        refine lv_istore_n (lv' := [(2, .int s0), (0, .ref oM), (1, .int a1), (3, .int x3)]) hx hb dd_M_areRights_99 rfl hl (by decide) rfl (fun ls hl => ?_)
        obtain ⟨v1001, ev1001⟩ : ∃ z, z = x3 + 1 := ⟨_, rfl⟩
        replace hf := qq_lt ev1001 hf
        refine lv_iinc (k := 3) (v := v1001) (lv' := [(3, .int v1001), (2, .int s0), (0, .ref oM), (1, .int a1)]) hx hb dd_M_areRights_100 hl rfl (by rw [ev1001]; exact congrArg _ (by decide)) (by decide) rfl (fun ls hl => ?_)
        refine lv_goto (tgt := 4) hx hb dd_M_areRights_103 (by decide) ?_
        exact ih4 s0 v1001 _ _ _ (lv_sub hl [2, 3, 1, 0] rfl) hP hD hS hf
      have hJ98 : ∀ (x3 : Int32) (H : Heap) (locs : List Loc) (ls : Array Slot), lv_has ls 6 [(0, .ref oM), (1, .int a1), (3, .int x3)] → va_P (dC, dI) classes [(oM, .inr (5, [.int mth, .int mpl, .ref obd, .int msd, .int mrt, .int mps, .int mqt, .int mmd, .ref opa, .ref opS, .ref opR, .ref opG, .ref opP, .ref opQ, .ref okp, .ref okS, .ref okR, .ref okP, .ref okQ, .ref oli])), (obd, .inl (cI, 64, .inl bd)), (opa, .inl (cI, 9664, .inl pa)), (opS, .inl (cI, 151, .inl pS)), (opR, .inl (cI, 151, .inl pR)), (opG, .inl (cI, 151, .inl pG)), (opP, .inl (cI, 151, .inl pP)), (opQ, .inl (cI, 151, .inl pQ)), (okp, .inl (cI, 256, .inl kp)), (okS, .inl (cI, 4, .inl kS)), (okR, .inl (cI, 4, .inl kR)), (okP, .inl (cI, 4, .inl kP)), (okQ, .inl (cI, 4, .inl kQ)), (oli, .inl (cI, 1320, .inl li))] H → va_D A [(oM, .inr (5, [.int mth, .int mpl, .ref obd, .int msd, .int mrt, .int mps, .int mqt, .int mmd, .ref opa, .ref opS, .ref opR, .ref opG, .ref opP, .ref opQ, .ref okp, .ref okS, .ref okR, .ref okP, .ref okQ, .ref oli])), (obd, .inl (cI, 64, .inl bd)), (opa, .inl (cI, 9664, .inl pa)), (opS, .inl (cI, 151, .inl pS)), (opR, .inl (cI, 151, .inl pR)), (opG, .inl (cI, 151, .inl pG)), (opP, .inl (cI, 151, .inl pP)), (opQ, .inl (cI, 151, .inl pQ)), (okp, .inl (cI, 256, .inl kp)), (okS, .inl (cI, 4, .inl kS)), (okR, .inl (cI, 4, .inl kR)), (okP, .inl (cI, 4, .inl kP)), (okQ, .inl (cI, 4, .inl kQ)), (oli, .inl (cI, 1320, .inl li))] → va_S A s.heap H locs → bk_M_areRights_98 bd a1 (lo_M_areRights_4 bd a1 n4) x3 = some rr → W p l e rm_M_areRights s m ([.ref oM, .int a1] : List Value).toArray below meth c H locs 0 0 Q (F0 m 98 ls []) := by
        intro x3 H locs ls hl hP hD hS hf
        rw [bk_M_areRights_98] at hf
        refine lv_iconst (v := 0) hx hb dd_M_areRights_98 (by decide) ?_
        exact hJ99 x3 0 _ _ _ (lv_sub hl [0, 1, 2] rfl) hP hD hS hf
      have hJ94 : ∀ (x3 : Int32) (H : Heap) (locs : List Loc) (ls : Array Slot), lv_has ls 6 [(0, .ref oM), (1, .int a1), (3, .int x3)] → va_P (dC, dI) classes [(oM, .inr (5, [.int mth, .int mpl, .ref obd, .int msd, .int mrt, .int mps, .int mqt, .int mmd, .ref opa, .ref opS, .ref opR, .ref opG, .ref opP, .ref opQ, .ref okp, .ref okS, .ref okR, .ref okP, .ref okQ, .ref oli])), (obd, .inl (cI, 64, .inl bd)), (opa, .inl (cI, 9664, .inl pa)), (opS, .inl (cI, 151, .inl pS)), (opR, .inl (cI, 151, .inl pR)), (opG, .inl (cI, 151, .inl pG)), (opP, .inl (cI, 151, .inl pP)), (opQ, .inl (cI, 151, .inl pQ)), (okp, .inl (cI, 256, .inl kp)), (okS, .inl (cI, 4, .inl kS)), (okR, .inl (cI, 4, .inl kR)), (okP, .inl (cI, 4, .inl kP)), (okQ, .inl (cI, 4, .inl kQ)), (oli, .inl (cI, 1320, .inl li))] H → va_D A [(oM, .inr (5, [.int mth, .int mpl, .ref obd, .int msd, .int mrt, .int mps, .int mqt, .int mmd, .ref opa, .ref opS, .ref opR, .ref opG, .ref opP, .ref opQ, .ref okp, .ref okS, .ref okR, .ref okP, .ref okQ, .ref oli])), (obd, .inl (cI, 64, .inl bd)), (opa, .inl (cI, 9664, .inl pa)), (opS, .inl (cI, 151, .inl pS)), (opR, .inl (cI, 151, .inl pR)), (opG, .inl (cI, 151, .inl pG)), (opP, .inl (cI, 151, .inl pP)), (opQ, .inl (cI, 151, .inl pQ)), (okp, .inl (cI, 256, .inl kp)), (okS, .inl (cI, 4, .inl kS)), (okR, .inl (cI, 4, .inl kR)), (okP, .inl (cI, 4, .inl kP)), (okQ, .inl (cI, 4, .inl kQ)), (oli, .inl (cI, 1320, .inl li))] → va_S A s.heap H locs → bk_M_areRights_94 bd a1 (lo_M_areRights_4 bd a1 n4) x3 = some rr → W p l e rm_M_areRights s m ([.ref oM, .int a1] : List Value).toArray below meth c H locs 0 0 Q (F0 m 94 ls []) := by
        intro x3 H locs ls hl hP hD hS hf
        rw [bk_M_areRights_94] at hf
        refine lv_iconst (v := 1) hx hb dd_M_areRights_94 (by decide) ?_
        refine lv_goto (tgt := 99) hx hb dd_M_areRights_95 (by decide) ?_
        exact hJ99 x3 1 _ _ _ (lv_sub hl [0, 1, 2] rfl) hP hD hS hf
      have hJ75 : ∀ (x2 : Int32) (x3 : Int32) (s0 : Int32) (H : Heap) (locs : List Loc) (ls : Array Slot), lv_has ls 6 [(0, .ref oM), (1, .int a1), (2, .int x2), (3, .int x3)] → va_P (dC, dI) classes [(oM, .inr (5, [.int mth, .int mpl, .ref obd, .int msd, .int mrt, .int mps, .int mqt, .int mmd, .ref opa, .ref opS, .ref opR, .ref opG, .ref opP, .ref opQ, .ref okp, .ref okS, .ref okR, .ref okP, .ref okQ, .ref oli])), (obd, .inl (cI, 64, .inl bd)), (opa, .inl (cI, 9664, .inl pa)), (opS, .inl (cI, 151, .inl pS)), (opR, .inl (cI, 151, .inl pR)), (opG, .inl (cI, 151, .inl pG)), (opP, .inl (cI, 151, .inl pP)), (opQ, .inl (cI, 151, .inl pQ)), (okp, .inl (cI, 256, .inl kp)), (okS, .inl (cI, 4, .inl kS)), (okR, .inl (cI, 4, .inl kR)), (okP, .inl (cI, 4, .inl kP)), (okQ, .inl (cI, 4, .inl kQ)), (oli, .inl (cI, 1320, .inl li))] H → va_D A [(oM, .inr (5, [.int mth, .int mpl, .ref obd, .int msd, .int mrt, .int mps, .int mqt, .int mmd, .ref opa, .ref opS, .ref opR, .ref opG, .ref opP, .ref opQ, .ref okp, .ref okS, .ref okR, .ref okP, .ref okQ, .ref oli])), (obd, .inl (cI, 64, .inl bd)), (opa, .inl (cI, 9664, .inl pa)), (opS, .inl (cI, 151, .inl pS)), (opR, .inl (cI, 151, .inl pR)), (opG, .inl (cI, 151, .inl pG)), (opP, .inl (cI, 151, .inl pP)), (opQ, .inl (cI, 151, .inl pQ)), (okp, .inl (cI, 256, .inl kp)), (okS, .inl (cI, 4, .inl kS)), (okR, .inl (cI, 4, .inl kR)), (okP, .inl (cI, 4, .inl kP)), (okQ, .inl (cI, 4, .inl kQ)), (oli, .inl (cI, 1320, .inl li))] → va_S A s.heap H locs → bk_M_areRights_75 bd a1 (lo_M_areRights_4 bd a1 n4) x2 x3 s0 = some rr → W p l e rm_M_areRights s m ([.ref oM, .int a1] : List Value).toArray below meth c H locs 0 0 Q (F0 m 75 ls [.int s0]) := by
        intro x2 x3 s0 H locs ls hl hP hD hS hf
        rw [bk_M_areRights_75] at hf
        refine lv_istore (lv' := [(5, .int s0), (0, .ref oM), (1, .int a1), (2, .int x2), (3, .int x3)]) hx hb dd_M_areRights_75 hl (by decide) rfl (fun ls hl => ?_)
        refine lv_iload_n hx hb dd_M_areRights_77 rfl (lv_at hl 3 rfl) ?_
        refine lv_if_eq (tgt := 98) hx hb dd_M_areRights_78 (by decide) (fun hc => ?_) (fun hc => ?_)
        · replace hf := qq_t hc hf
          exact hJ98 x3 _ _ _ (lv_sub hl [1, 2, 4] rfl) hP hD hS hf
        · replace hf := qq_f hc hf
          refine lv_iload_n hx hb dd_M_areRights_81 rfl (lv_at hl 2 rfl) ?_
          refine lv_iload_n hx hb dd_M_areRights_82 rfl (lv_at hl 4 rfl) ?_
          refine lv_ishr hx hb dd_M_areRights_83 ?_
          refine lv_iconst (v := 1) hx hb dd_M_areRights_84 (by decide) ?_
          refine lv_iand hx hb dd_M_areRights_85 ?_
          refine lv_if_eq (tgt := 94) hx hb dd_M_areRights_86 (by decide) (fun hc => ?_) (fun hc => ?_)
          · replace hf := qq_t hc hf
            exact hJ94 x3 _ _ _ (lv_sub hl [1, 2, 4] rfl) hP hD hS hf
          · replace hf := qq_f hc hf
            refine lv_iload hx hb dd_M_areRights_89 (lv_at hl 0 rfl) ?_
            refine lv_if_eq (tgt := 98) hx hb dd_M_areRights_91 (by decide) (fun hc => ?_) (fun hc => ?_)
            · replace hf := qq_t hc hf
              exact hJ98 x3 _ _ _ (lv_sub hl [1, 2, 4] rfl) hP hD hS hf
            · replace hf := qq_f hc hf
              exact hJ94 x3 _ _ _ (lv_sub hl [1, 2, 4] rfl) hP hD hS hf
      have hJ74 : ∀ (x2 : Int32) (x3 : Int32) (H : Heap) (locs : List Loc) (ls : Array Slot), lv_has ls 6 [(0, .ref oM), (1, .int a1), (2, .int x2), (3, .int x3)] → va_P (dC, dI) classes [(oM, .inr (5, [.int mth, .int mpl, .ref obd, .int msd, .int mrt, .int mps, .int mqt, .int mmd, .ref opa, .ref opS, .ref opR, .ref opG, .ref opP, .ref opQ, .ref okp, .ref okS, .ref okR, .ref okP, .ref okQ, .ref oli])), (obd, .inl (cI, 64, .inl bd)), (opa, .inl (cI, 9664, .inl pa)), (opS, .inl (cI, 151, .inl pS)), (opR, .inl (cI, 151, .inl pR)), (opG, .inl (cI, 151, .inl pG)), (opP, .inl (cI, 151, .inl pP)), (opQ, .inl (cI, 151, .inl pQ)), (okp, .inl (cI, 256, .inl kp)), (okS, .inl (cI, 4, .inl kS)), (okR, .inl (cI, 4, .inl kR)), (okP, .inl (cI, 4, .inl kP)), (okQ, .inl (cI, 4, .inl kQ)), (oli, .inl (cI, 1320, .inl li))] H → va_D A [(oM, .inr (5, [.int mth, .int mpl, .ref obd, .int msd, .int mrt, .int mps, .int mqt, .int mmd, .ref opa, .ref opS, .ref opR, .ref opG, .ref opP, .ref opQ, .ref okp, .ref okS, .ref okR, .ref okP, .ref okQ, .ref oli])), (obd, .inl (cI, 64, .inl bd)), (opa, .inl (cI, 9664, .inl pa)), (opS, .inl (cI, 151, .inl pS)), (opR, .inl (cI, 151, .inl pR)), (opG, .inl (cI, 151, .inl pG)), (opP, .inl (cI, 151, .inl pP)), (opQ, .inl (cI, 151, .inl pQ)), (okp, .inl (cI, 256, .inl kp)), (okS, .inl (cI, 4, .inl kS)), (okR, .inl (cI, 4, .inl kR)), (okP, .inl (cI, 4, .inl kP)), (okQ, .inl (cI, 4, .inl kQ)), (oli, .inl (cI, 1320, .inl li))] → va_S A s.heap H locs → bk_M_areRights_74 bd a1 (lo_M_areRights_4 bd a1 n4) x2 x3 = some rr → W p l e rm_M_areRights s m ([.ref oM, .int a1] : List Value).toArray below meth c H locs 0 0 Q (F0 m 74 ls []) := by
        intro x2 x3 H locs ls hl hP hD hS hf
        rw [bk_M_areRights_74] at hf
        refine lv_iconst (v := 0) hx hb dd_M_areRights_74 (by decide) ?_
        exact hJ75 x2 x3 0 _ _ _ (lv_sub hl [0, 1, 2, 3] rfl) hP hD hS hf
      have hJ58 : ∀ (x2 : Int32) (x3 : Int32) (x4 : Int32) (s1 : Int32) (s2 : Int32) (H : Heap) (locs : List Loc) (ls : Array Slot), lv_has ls 6 [(0, .ref oM), (1, .int a1), (2, .int x2), (3, .int x3), (4, .int x4)] → va_P (dC, dI) classes [(oM, .inr (5, [.int mth, .int mpl, .ref obd, .int msd, .int mrt, .int mps, .int mqt, .int mmd, .ref opa, .ref opS, .ref opR, .ref opG, .ref opP, .ref opQ, .ref okp, .ref okS, .ref okR, .ref okP, .ref okQ, .ref oli])), (obd, .inl (cI, 64, .inl bd)), (opa, .inl (cI, 9664, .inl pa)), (opS, .inl (cI, 151, .inl pS)), (opR, .inl (cI, 151, .inl pR)), (opG, .inl (cI, 151, .inl pG)), (opP, .inl (cI, 151, .inl pP)), (opQ, .inl (cI, 151, .inl pQ)), (okp, .inl (cI, 256, .inl kp)), (okS, .inl (cI, 4, .inl kS)), (okR, .inl (cI, 4, .inl kR)), (okP, .inl (cI, 4, .inl kP)), (okQ, .inl (cI, 4, .inl kQ)), (oli, .inl (cI, 1320, .inl li))] H → va_D A [(oM, .inr (5, [.int mth, .int mpl, .ref obd, .int msd, .int mrt, .int mps, .int mqt, .int mmd, .ref opa, .ref opS, .ref opR, .ref opG, .ref opP, .ref opQ, .ref okp, .ref okS, .ref okR, .ref okP, .ref okQ, .ref oli])), (obd, .inl (cI, 64, .inl bd)), (opa, .inl (cI, 9664, .inl pa)), (opS, .inl (cI, 151, .inl pS)), (opR, .inl (cI, 151, .inl pR)), (opG, .inl (cI, 151, .inl pG)), (opP, .inl (cI, 151, .inl pP)), (opQ, .inl (cI, 151, .inl pQ)), (okp, .inl (cI, 256, .inl kp)), (okS, .inl (cI, 4, .inl kS)), (okR, .inl (cI, 4, .inl kR)), (okP, .inl (cI, 4, .inl kP)), (okQ, .inl (cI, 4, .inl kQ)), (oli, .inl (cI, 1320, .inl li))] → va_S A s.heap H locs → bk_M_areRights_58 bd a1 (lo_M_areRights_4 bd a1 n4) x2 x3 x4 s1 s2 = some rr → W p l e rm_M_areRights s m ([.ref oM, .int a1] : List Value).toArray below meth c H locs 0 0 Q (F0 m 58 ls [.int s2, .int s1, .ref obd]) := by
        intro x2 x3 x4 s1 s2 H locs ls hl hP hD hS hf
        rw [bk_M_areRights_58] at hf
        refine lv_iadd hx hb dd_M_areRights_58 ?_
        obtain ⟨hi6001, hf⟩ := qq_ckE hf
        refine va_iald (D := (dC, dI)) (f := bd) (n := 64) (cA := cI) hx hb hK hP 1 0 rfl rfl (qq_inE hi6001) dd_M_areRights_59 ?_
        refine lv_iconst (v := 4) hx hb dd_M_areRights_60 (by decide) ?_
        refine lv_bipush (v := 6) hx hb dd_M_areRights_61 (by decide) ?_
        refine lv_iload hx hb dd_M_areRights_63 (lv_at hl 4 rfl) ?_
        refine lv_imul hx hb dd_M_areRights_65 ?_
        refine lv_iadd hx hb dd_M_areRights_66 ?_
        refine lv_icmp_ne (tgt := 74) hx hb dd_M_areRights_67 (by decide) (fun hc => ?_) (fun hc => ?_)
        · replace hf := qq_f hc hf
          exact hJ74 x2 x3 _ _ _ (lv_sub hl [0, 1, 2, 3] rfl) hP hD hS hf
        · replace hf := qq_t hc hf
          refine lv_iconst (v := 1) hx hb dd_M_areRights_70 (by decide) ?_
          refine lv_goto (tgt := 75) hx hb dd_M_areRights_71 (by decide) ?_
          exact hJ75 x2 x3 1 _ _ _ (lv_sub hl [0, 1, 2, 3] rfl) hP hD hS hf
      intro x2 x3 H locs ls hl hP hD hS hf
      rw [lo_M_areRights_4_s] at hf
      refine lv_iload_n hx hb dd_M_areRights_4 rfl (lv_at hl 3 rfl) ?_
      refine lv_iconst (v := 4) hx hb dd_M_areRights_5 (by decide) ?_
      refine lv_icmp_ge (tgt := 106) hx hb dd_M_areRights_6 (by decide) (fun hc => ?_) (fun hc => ?_)
      · replace hf := qq_t hc hf
        refine lv_iload_n hx hb dd_M_areRights_106 rfl (lv_at hl 2 rfl) ?_
        obtain ⟨hzb, hf⟩ := qq_ckE hf
        cases hf
        exact qq_zret hx hb hr (qq_bE hzb) hlocks hQ hP hD hK hS dd_M_areRights_107
      · replace hf := qq_f hc hf
        refine lv_iload_n hx hb dd_M_areRights_9 rfl (lv_at hl 3 rfl) ?_
        refine lv_iconst (v := 2) hx hb dd_M_areRights_10 (by decide) ?_
        refine lv_idiv hx hb dd_M_areRights_11 (by decide) ?_
        refine lv_topi (fun v7001 ev7001 => ?_)
        replace hf := qq_lt ev7001 hf
        refine lv_istore (lv' := [(4, .int v7001), (0, .ref oM), (1, .int a1), (2, .int x2), (3, .int x3)]) hx hb dd_M_areRights_12 hl (by decide) rfl (fun ls hl => ?_)
        refine lv_aload_n hx hb dd_M_areRights_14 rfl (lv_at hl 1 rfl) ?_
        refine va_get (D := (dC, dI)) (ci := 5) (v := .ref obd) (C := RR_M) (T := FF_M) (N := 20) hx hb hts uu_M hown hK hP 0 rfl rfl 2 (by decide) (hts _ mm_209) (fun _ h9 => h9) rfl dd_M_areRights_15 ?_
        refine lv_bipush (v := 56) hx hb dd_M_areRights_18 (by decide) ?_
        refine lv_iload hx hb dd_M_areRights_20 (lv_at hl 0 rfl) ?_
        refine lv_imul hx hb dd_M_areRights_22 ?_
        refine lv_iconst (v := 4) hx hb dd_M_areRights_23 (by decide) ?_
        refine lv_iadd hx hb dd_M_areRights_24 ?_
        obtain ⟨hi7002, hf⟩ := qq_ckE hf
        refine va_iald (D := (dC, dI)) (f := bd) (n := 64) (cA := cI) hx hb hK hP 1 0 rfl rfl (qq_inE hi7002) dd_M_areRights_25 ?_
        refine lv_bipush (v := 6) hx hb dd_M_areRights_26 (by decide) ?_
        refine lv_bipush (v := 6) hx hb dd_M_areRights_28 (by decide) ?_
        refine lv_iload hx hb dd_M_areRights_30 (lv_at hl 0 rfl) ?_
        refine lv_imul hx hb dd_M_areRights_32 ?_
        refine lv_iadd hx hb dd_M_areRights_33 ?_
        refine lv_icmp_ne (tgt := 74) hx hb dd_M_areRights_34 (by decide) (fun hc => ?_) (fun hc => ?_)
        · replace hf := qq_f hc hf
          exact hJ74 x2 x3 _ _ _ (lv_sub hl [1, 2, 3, 4] rfl) hP hD hS hf
        · replace hf := qq_t hc hf
          refine lv_aload_n hx hb dd_M_areRights_37 rfl (lv_at hl 1 rfl) ?_
          refine va_get (D := (dC, dI)) (ci := 5) (v := .ref obd) (C := RR_M) (T := FF_M) (N := 20) hx hb hts uu_M hown hK hP 0 rfl rfl 2 (by decide) (hts _ mm_209) (fun _ h9 => h9) rfl dd_M_areRights_38 ?_
          refine lv_bipush (v := 56) hx hb dd_M_areRights_41 (by decide) ?_
          refine lv_iload hx hb dd_M_areRights_43 (lv_at hl 0 rfl) ?_
          refine lv_imul hx hb dd_M_areRights_45 ?_
          refine lv_iload_n hx hb dd_M_areRights_46 rfl (lv_at hl 4 rfl) ?_
          refine lv_iconst (v := 2) hx hb dd_M_areRights_47 (by decide) ?_
          refine lv_irem hx hb dd_M_areRights_48 (by decide) ?_
          refine lv_if_ne (tgt := 57) hx hb dd_M_areRights_49 (by decide) (fun hc => ?_) (fun hc => ?_)
          · replace hf := qq_f hc hf
            refine lv_iconst (v := 0) hx hb dd_M_areRights_57 (by decide) ?_
            exact hJ58 x2 x3 v7001 (56 * v7001) 0 _ _ _ (lv_sub hl [1, 2, 3, 4, 0] rfl) hP hD hS hf
          · replace hf := qq_t hc hf
            refine lv_bipush (v := 7) hx hb dd_M_areRights_52 (by decide) ?_
            refine lv_goto (tgt := 58) hx hb dd_M_areRights_54 (by decide) ?_
            exact hJ58 x2 x3 v7001 (56 * v7001) 7 _ _ _ (lv_sub hl [1, 2, 3, 4, 0] rfl) hP hD hS hf
  rw [fn_M_areRights] at hf
  refine lv_iconst (v := 1) hx hb dd_M_areRights_0 (by decide) ?_
  refine lv_istore_n (lv' := [(2, .int 1), (0, .ref oM), (1, .int a1)]) hx hb dd_M_areRights_1 rfl hl (by decide) rfl (fun ls hl => ?_)
  refine lv_iconst (v := 0) hx hb dd_M_areRights_2 (by decide) ?_
  refine lv_istore_n (lv' := [(3, .int 0), (2, .int 1), (0, .ref oM), (1, .int a1)]) hx hb dd_M_areRights_3 rfl hl (by decide) rfl (fun ls hl => ?_)
  exact hL4 qq_FU 1 0 _ _ _ (lv_sub hl [2, 3, 1, 0] rfl) hP hD hS hf
theorem dd_M_at_0 : decode bb_M_at 0 = .ok (.aload_n 0, 1) := by decide +kernel
theorem dd_M_at_1 : decode bb_M_at 1 = .ok (.iconst 0, 1) := by decide +kernel
theorem dd_M_at_2 : decode bb_M_at 2 = .ok (.putfield 63, 3) := by decide +kernel
theorem dd_M_at_5 : decode bb_M_at 5 = .ok (.iload_n 1, 1) := by decide +kernel
theorem dd_M_at_6 : decode bb_M_at 6 = .ok (.iconst 0, 1) := by decide +kernel
theorem dd_M_at_7 : decode bb_M_at 7 = .ok (.bipush 63, 2) := by decide +kernel
theorem dd_M_at_9 : decode bb_M_at 9 = .ok (.invokestatic 98, 3) := by decide +kernel
theorem dd_M_at_12 : decode bb_M_at 12 = .ok (.ifCond .eq 7, 3) := by decide +kernel
theorem dd_M_at_15 : decode bb_M_at 15 = .ok (.iconst 0, 1) := by decide +kernel
theorem dd_M_at_16 : decode bb_M_at 16 = .ok (.goto 9, 3) := by decide +kernel
theorem dd_M_at_19 : decode bb_M_at 19 = .ok (.aload_n 0, 1) := by decide +kernel
theorem dd_M_at_20 : decode bb_M_at 20 = .ok (.getfield 7, 3) := by decide +kernel
theorem dd_M_at_23 : decode bb_M_at 23 = .ok (.iload_n 1, 1) := by decide +kernel
theorem dd_M_at_24 : decode bb_M_at 24 = .ok (.iaload, 1) := by decide +kernel
theorem dd_M_at_25 : decode bb_M_at 25 = .ok (.ireturn, 1) := by decide +kernel
abbrev ty_M_at : Type := Int32 × Int32
noncomputable def bk_M_at_25 (bd : Nat → Int32) (a1 : Int32) (mth : Int32) (s0 : Int32) : Option ty_M_at := some (s0, mth)
noncomputable def fn_M_at (mth : Int32) (bd : Nat → Int32) (a1 : Int32) : Option ty_M_at := (fn_M_outside a1 0 63).bind fun r1 => if r1 = 0 then (qq_ck (qq_in a1 64) <| bk_M_at_25 bd a1 0 (bd a1.toNatClampNeg)) else (bk_M_at_25 bd a1 0 0)
abbrev rm_M_at : Room := { frames := 1, cells := 0, slots := 0, locals := 22 }
set_option maxHeartbeats 4000000 in
set_option maxRecDepth 100000 in
theorem ct_M_at (l : Launch) (dC : Nat → ClassId) (dI : Nat → Nat → Nat) (cI cL cR : ClassId) (oM obd opa opS opR opG opP opQ okp okS okR okP okQ oli : Nat) (mth : Int32) (mpl : Int32) (msd : Int32) (mrt : Int32) (mps : Int32) (mqt : Int32) (mmd : Int32) (bd : Nat → Int32) (pa : Nat → Int32) (pS : Nat → Int32) (pR : Nat → Int32) (pG : Nat → Int32) (pP : Nat → Int32) (pQ : Nat → Int32) (kp : Nat → Int32) (kS : Nat → Int32) (kR : Nat → Int32) (kP : Nat → Int32) (kQ : Nat → Int32) (li : Nat → Int32) (a1 : Int32) {rr : Int32} {mth' : Int32} (hf : fn_M_at mth bd a1 = some (rr, mth')) : qq_det l yy_M_at (ww_of yy_M_at bb_M_at 2 (some .int)) rm_M_at (dC, dI) (qq_ty cI cL cR) [.ref oM, .int a1] [(oM, .inr (5, [.int mth, .int mpl, .ref obd, .int msd, .int mrt, .int mps, .int mqt, .int mmd, .ref opa, .ref opS, .ref opR, .ref opG, .ref opP, .ref opQ, .ref okp, .ref okS, .ref okR, .ref okP, .ref okQ, .ref oli])), (obd, .inl (cI, 64, .inl bd)), (opa, .inl (cI, 9664, .inl pa)), (opS, .inl (cI, 151, .inl pS)), (opR, .inl (cI, 151, .inl pR)), (opG, .inl (cI, 151, .inl pG)), (opP, .inl (cI, 151, .inl pP)), (opQ, .inl (cI, 151, .inl pQ)), (okp, .inl (cI, 256, .inl kp)), (okS, .inl (cI, 4, .inl kS)), (okR, .inl (cI, 4, .inl kR)), (okP, .inl (cI, 4, .inl kP)), (okQ, .inl (cI, 4, .inl kQ)), (oli, .inl (cI, 1320, .inl li))] (some (.int rr)) [(oM, .inr (5, [.int mth', .int mpl, .ref obd, .int msd, .int mrt, .int mps, .int mqt, .int mmd, .ref opa, .ref opS, .ref opR, .ref opG, .ref opP, .ref opQ, .ref okp, .ref okS, .ref okR, .ref okP, .ref okQ, .ref oli])), (obd, .inl (cI, 64, .inl bd)), (opa, .inl (cI, 9664, .inl pa)), (opS, .inl (cI, 151, .inl pS)), (opR, .inl (cI, 151, .inl pR)), (opG, .inl (cI, 151, .inl pG)), (opP, .inl (cI, 151, .inl pP)), (opQ, .inl (cI, 151, .inl pQ)), (okp, .inl (cI, 256, .inl kp)), (okS, .inl (cI, 4, .inl kS)), (okR, .inl (cI, 4, .inl kR)), (okP, .inl (cI, 4, .inl kP)), (okQ, .inl (cI, 4, .inl kQ)), (oli, .inl (cI, 1320, .inl li))] := by
  refine qq_of (own := RR_M) (by decide) rfl (Nat.le_of_ble_eq_true rfl) ?_
  intro p e s m below meth c A Q ls hx hb hml hr hlocks hown hts hK hA hT hN hP hD hS hl hQ
  have hl : lv_has ls 2 [(0, .ref oM), (1, .int a1)] := hl
  have hJ25 : ∀ (mth : Int32) (s0 : Int32) (H : Heap) (locs : List Loc) (ls : Array Slot), lv_has ls 2 [] → va_P (dC, dI) classes [(oM, .inr (5, [.int mth, .int mpl, .ref obd, .int msd, .int mrt, .int mps, .int mqt, .int mmd, .ref opa, .ref opS, .ref opR, .ref opG, .ref opP, .ref opQ, .ref okp, .ref okS, .ref okR, .ref okP, .ref okQ, .ref oli])), (obd, .inl (cI, 64, .inl bd)), (opa, .inl (cI, 9664, .inl pa)), (opS, .inl (cI, 151, .inl pS)), (opR, .inl (cI, 151, .inl pR)), (opG, .inl (cI, 151, .inl pG)), (opP, .inl (cI, 151, .inl pP)), (opQ, .inl (cI, 151, .inl pQ)), (okp, .inl (cI, 256, .inl kp)), (okS, .inl (cI, 4, .inl kS)), (okR, .inl (cI, 4, .inl kR)), (okP, .inl (cI, 4, .inl kP)), (okQ, .inl (cI, 4, .inl kQ)), (oli, .inl (cI, 1320, .inl li))] H → va_D A [(oM, .inr (5, [.int mth, .int mpl, .ref obd, .int msd, .int mrt, .int mps, .int mqt, .int mmd, .ref opa, .ref opS, .ref opR, .ref opG, .ref opP, .ref opQ, .ref okp, .ref okS, .ref okR, .ref okP, .ref okQ, .ref oli])), (obd, .inl (cI, 64, .inl bd)), (opa, .inl (cI, 9664, .inl pa)), (opS, .inl (cI, 151, .inl pS)), (opR, .inl (cI, 151, .inl pR)), (opG, .inl (cI, 151, .inl pG)), (opP, .inl (cI, 151, .inl pP)), (opQ, .inl (cI, 151, .inl pQ)), (okp, .inl (cI, 256, .inl kp)), (okS, .inl (cI, 4, .inl kS)), (okR, .inl (cI, 4, .inl kR)), (okP, .inl (cI, 4, .inl kP)), (okQ, .inl (cI, 4, .inl kQ)), (oli, .inl (cI, 1320, .inl li))] → va_S A s.heap H locs → bk_M_at_25 bd a1 mth s0 = some (rr, mth') → W p l e rm_M_at s m ([.ref oM, .int a1] : List Value).toArray below meth c H locs 0 0 Q (F0 m 25 ls [.int s0]) := by
    intro mth s0 H locs ls hl hP hD hS hf
    rw [bk_M_at_25] at hf
    cases hf
    exact qq_iret hx hb hr hlocks hQ hP hD hK hS dd_M_at_25
  rw [fn_M_at] at hf
  refine lv_aload_n hx hb dd_M_at_0 rfl (lv_at hl 0 rfl) ?_
  refine lv_iconst (v := 0) hx hb dd_M_at_1 (by decide) ?_
  refine va_put (D := (dC, dI)) (ci := 5) (v := .int 0) (ty := .int) (C := RR_M) (T := FF_M) (N := 20) hx hb hts uu_M tt_M tt_M_ok nn_M hown hK hP hD hS 0 rfl rfl 0 (by decide) (hts _ mm_310) (fun _ h9 => h9) rfl (by decide +kernel) rfl rfl (Nat.le_of_ble_eq_true rfl) dd_M_at_2 (fun H locs hP hD hS => ?_)
  have hP : va_P (dC, dI) classes [(oM, .inr (5, [.int 0, .int mpl, .ref obd, .int msd, .int mrt, .int mps, .int mqt, .int mmd, .ref opa, .ref opS, .ref opR, .ref opG, .ref opP, .ref opQ, .ref okp, .ref okS, .ref okR, .ref okP, .ref okQ, .ref oli])), (obd, .inl (cI, 64, .inl bd)), (opa, .inl (cI, 9664, .inl pa)), (opS, .inl (cI, 151, .inl pS)), (opR, .inl (cI, 151, .inl pR)), (opG, .inl (cI, 151, .inl pG)), (opP, .inl (cI, 151, .inl pP)), (opQ, .inl (cI, 151, .inl pQ)), (okp, .inl (cI, 256, .inl kp)), (okS, .inl (cI, 4, .inl kS)), (okR, .inl (cI, 4, .inl kR)), (okP, .inl (cI, 4, .inl kP)), (okQ, .inl (cI, 4, .inl kQ)), (oli, .inl (cI, 1320, .inl li))] H := hP
  have hD : va_D A [(oM, .inr (5, [.int 0, .int mpl, .ref obd, .int msd, .int mrt, .int mps, .int mqt, .int mmd, .ref opa, .ref opS, .ref opR, .ref opG, .ref opP, .ref opQ, .ref okp, .ref okS, .ref okR, .ref okP, .ref okQ, .ref oli])), (obd, .inl (cI, 64, .inl bd)), (opa, .inl (cI, 9664, .inl pa)), (opS, .inl (cI, 151, .inl pS)), (opR, .inl (cI, 151, .inl pR)), (opG, .inl (cI, 151, .inl pG)), (opP, .inl (cI, 151, .inl pP)), (opQ, .inl (cI, 151, .inl pQ)), (okp, .inl (cI, 256, .inl kp)), (okS, .inl (cI, 4, .inl kS)), (okR, .inl (cI, 4, .inl kR)), (okP, .inl (cI, 4, .inl kP)), (okQ, .inl (cI, 4, .inl kQ)), (oli, .inl (cI, 1320, .inl li))] := hD
  refine lv_iload_n hx hb dd_M_at_5 rfl (lv_at hl 1 rfl) ?_
  refine lv_iconst (v := 0) hx hb dd_M_at_6 (by decide) ?_
  refine lv_bipush (v := 63) hx hb dd_M_at_7 (by decide) ?_
  obtain ⟨r1, hy1, hf⟩ := qq_bd hf
  refine qq_S (As := [.int a1, .int 0, .int 63]) (rest := []) (wr := [(oM, .inr (5, [.int 0, .int mpl, .ref obd, .int msd, .int mrt, .int mps, .int mqt, .int mmd, .ref opa, .ref opS, .ref opR, .ref opG, .ref opP, .ref opQ, .ref okp, .ref okS, .ref okR, .ref okP, .ref okQ, .ref oli])), (obd, .inl (cI, 64, .inl bd)), (opa, .inl (cI, 9664, .inl pa)), (opS, .inl (cI, 151, .inl pS)), (opR, .inl (cI, 151, .inl pR)), (opG, .inl (cI, 151, .inl pG)), (opP, .inl (cI, 151, .inl pP)), (opQ, .inl (cI, 151, .inl pQ)), (okp, .inl (cI, 256, .inl kp)), (okS, .inl (cI, 4, .inl kS)), (okR, .inl (cI, 4, .inl kR)), (okP, .inl (cI, 4, .inl kP)), (okQ, .inl (cI, 4, .inl kQ)), (oli, .inl (cI, 1320, .inl li))]) (wf := [(oM, .inr (5, [.int 0, .int mpl, .ref obd, .int msd, .int mrt, .int mps, .int mqt, .int mmd, .ref opa, .ref opS, .ref opR, .ref opG, .ref opP, .ref opQ, .ref okp, .ref okS, .ref okR, .ref okP, .ref okQ, .ref oli])), (obd, .inl (cI, 64, .inl bd)), (opa, .inl (cI, 9664, .inl pa)), (opS, .inl (cI, 151, .inl pS)), (opR, .inl (cI, 151, .inl pR)), (opG, .inl (cI, 151, .inl pG)), (opP, .inl (cI, 151, .inl pP)), (opQ, .inl (cI, 151, .inl pQ)), (okp, .inl (cI, 256, .inl kp)), (okS, .inl (cI, 4, .inl kS)), (okR, .inl (cI, 4, .inl kR)), (okP, .inl (cI, 4, .inl kP)), (okQ, .inl (cI, 4, .inl kQ)), (oli, .inl (cI, 1320, .inl li))]) ⟨hx, hb, hml, hown, hts⟩ (ct_M_outside l dC dI cI cL cR a1 0 63 hy1) mm_238 mm_239 mm_237 mm_211 hd_M_outside (by decide) qq_00 hP hD hK hS hA hT hN [] [0, 1, 2, 3, 4, 5, 6, 7, 8, 9, 10, 11, 12, 13] [0, 1, 2, 3, 4, 5, 6, 7, 8, 9, 10, 11, 12, 13] rfl rfl rfl (by decide) rfl hl.1 rfl (Nat.le_of_ble_eq_true rfl) dd_M_at_9 (fun H locs hP hD hS => ?_)
  refine W.eq (g2 := F0 m 12 ls [.int r1]) rfl ?_
  refine lv_if_eq (tgt := 19) hx hb dd_M_at_12 (by decide) (fun hc => ?_) (fun hc => ?_)
  · replace hf := qq_t hc hf
    refine lv_aload_n hx hb dd_M_at_19 rfl (lv_at hl 0 rfl) ?_
    refine va_get (D := (dC, dI)) (ci := 5) (v := .ref obd) (C := RR_M) (T := FF_M) (N := 20) hx hb hts uu_M hown hK hP 0 rfl rfl 2 (by decide) (hts _ mm_209) (fun _ h9 => h9) rfl dd_M_at_20 ?_
    refine lv_iload_n hx hb dd_M_at_23 rfl (lv_at hl 1 rfl) ?_
    obtain ⟨hi2, hf⟩ := qq_ckE hf
    refine va_iald (D := (dC, dI)) (f := bd) (n := 64) (cA := cI) hx hb hK hP 1 0 rfl rfl (qq_inE hi2) dd_M_at_24 ?_
    exact hJ25 0 (bd a1.toNatClampNeg) _ _ _ (lv_sub hl [] rfl) hP hD hS hf
  · replace hf := qq_f hc hf
    refine lv_iconst (v := 0) hx hb dd_M_at_15 (by decide) ?_
    refine lv_goto (tgt := 25) hx hb dd_M_at_16 (by decide) ?_
    exact hJ25 0 0 _ _ _ (lv_sub hl [] rfl) hP hD hS hf
