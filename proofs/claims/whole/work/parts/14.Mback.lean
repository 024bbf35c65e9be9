theorem dd_M_back_0 : decode bb_M_back 0 = .ok (.iconst 0, 1) := by decide +kernel
theorem dd_M_back_1 : decode bb_M_back 1 = .ok (.istore_n 2, 1) := by decide +kernel
theorem dd_M_back_2 : decode bb_M_back 2 = .ok (.iload_n 2, 1) := by decide +kernel
theorem dd_M_back_3 : decode bb_M_back 3 = .ok (.bipush 64, 2) := by decide +kernel
theorem dd_M_back_5 : decode bb_M_back 5 = .ok (.if_icmp .ge 26, 3) := by decide +kernel
theorem dd_M_back_8 : decode bb_M_back 8 = .ok (.aload_n 0, 1) := by decide +kernel
theorem dd_M_back_9 : decode bb_M_back 9 = .ok (.getfield 7, 3) := by decide +kernel
theorem dd_M_back_12 : decode bb_M_back 12 = .ok (.iload_n 2, 1) := by decide +kernel
theorem dd_M_back_13 : decode bb_M_back 13 = .ok (.aload_n 0, 1) := by decide +kernel
theorem dd_M_back_14 : decode bb_M_back 14 = .ok (.getfield 35, 3) := by decide +kernel
theorem dd_M_back_17 : decode bb_M_back 17 = .ok (.bipush 64, 2) := by decide +kernel
theorem dd_M_back_19 : decode bb_M_back 19 = .ok (.iload_n 1, 1) := by decide +kernel
theorem dd_M_back_20 : decode bb_M_back 20 = .ok (.imul, 1) := by decide +kernel
theorem dd_M_back_21 : decode bb_M_back 21 = .ok (.iload_n 2, 1) := by decide +kernel
theorem dd_M_back_22 : decode bb_M_back 22 = .ok (.iadd, 1) := by decide +kernel
theorem dd_M_back_23 : decode bb_M_back 23 = .ok (.iaload, 1) := by decide +kernel
theorem dd_M_back_24 : decode bb_M_back 24 = .ok (.iastore, 1) := by decide +kernel
theorem dd_M_back_25 : decode bb_M_back 25 = .ok (.iinc 2 1, 3) := by decide +kernel
theorem dd_M_back_28 : decode bb_M_back 28 = .ok (.goto (-26), 3) := by decide +kernel
theorem dd_M_back_31 : decode bb_M_back 31 = .ok (.aload_n 0, 1) := by decide +kernel
theorem dd_M_back_32 : decode bb_M_back 32 = .ok (.aload_n 0, 1) := by decide +kernel
theorem dd_M_back_33 : decode bb_M_back 33 = .ok (.getfield 38, 3) := by decide +kernel
theorem dd_M_back_36 : decode bb_M_back 36 = .ok (.iload_n 1, 1) := by decide +kernel
theorem dd_M_back_37 : decode bb_M_back 37 = .ok (.iaload, 1) := by decide +kernel
theorem dd_M_back_38 : decode bb_M_back 38 = .ok (.putfield 95, 3) := by decide +kernel
theorem dd_M_back_41 : decode bb_M_back 41 = .ok (.aload_n 0, 1) := by decide +kernel
theorem dd_M_back_42 : decode bb_M_back 42 = .ok (.aload_n 0, 1) := by decide +kernel
theorem dd_M_back_43 : decode bb_M_back 43 = .ok (.getfield 41, 3) := by decide +kernel
theorem dd_M_back_46 : decode bb_M_back 46 = .ok (.iload_n 1, 1) := by decide +kernel
theorem dd_M_back_47 : decode bb_M_back 47 = .ok (.iaload, 1) := by decide +kernel
theorem dd_M_back_48 : decode bb_M_back 48 = .ok (.putfield 53, 3) := by decide +kernel
theorem dd_M_back_51 : decode bb_M_back 51 = .ok (.aload_n 0, 1) := by decide +kernel
theorem dd_M_back_52 : decode bb_M_back 52 = .ok (.aload_n 0, 1) := by decide +kernel
theorem dd_M_back_53 : decode bb_M_back 53 = .ok (.getfield 44, 3) := by decide +kernel
theorem dd_M_back_56 : decode bb_M_back 56 = .ok (.iload_n 1, 1) := by decide +kernel
theorem dd_M_back_57 : decode bb_M_back 57 = .ok (.iaload, 1) := by decide +kernel
theorem dd_M_back_58 : decode bb_M_back 58 = .ok (.putfield 13, 3) := by decide +kernel
theorem dd_M_back_61 : decode bb_M_back 61 = .ok (.aload_n 0, 1) := by decide +kernel
theorem dd_M_back_62 : decode bb_M_back 62 = .ok (.aload_n 0, 1) := by decide +kernel
theorem dd_M_back_63 : decode bb_M_back 63 = .ok (.getfield 47, 3) := by decide +kernel
theorem dd_M_back_66 : decode bb_M_back 66 = .ok (.iload_n 1, 1) := by decide +kernel
theorem dd_M_back_67 : decode bb_M_back 67 = .ok (.iaload, 1) := by decide +kernel
theorem dd_M_back_68 : decode bb_M_back 68 = .ok (.putfield 115, 3) := by decide +kernel
theorem dd_M_back_71 : decode bb_M_back 71 = .ok (.return_, 1) := by decide +kernel
abbrev ty_M_back : Type := Int32 × Int32 × Int32 × Int32 × (Nat → Int32)
noncomputable def lo_M_back_2 (kp : Nat → Int32) (kS : Nat → Int32) (kR : Nat → Int32) (kP : Nat → Int32) (kQ : Nat → Int32) (a1 : Int32) : Nat → Int32 → Int32 → Int32 → Int32 → (Nat → Int32) → Int32 → Option ty_M_back
  | 0, _, _, _, _, _, _ => none
  | n + 1, msd, mrt, mps, mqt, bd, x2 => if 64 ≤ x2 then (qq_ck (qq_in a1 4) <| qq_let (kS a1.toNatClampNeg) fun v1002 => qq_ck (qq_in a1 4) <| qq_let (kR a1.toNatClampNeg) fun v1004 => qq_ck (qq_in a1 4) <| qq_let (kP a1.toNatClampNeg) fun v1006 => qq_ck (qq_in a1 4) <| qq_let (kQ a1.toNatClampNeg) fun v1008 => some (v1002, v1004, v1006, v1008, bd)) else (qq_ck (qq_in ((64 * a1) + x2) 256) <| qq_ck (qq_in x2 64) <| qq_let (upd bd x2.toNatClampNeg (kp ((64 * a1) + x2).toNatClampNeg)) fun bd_1011 => qq_let (x2 + 1) fun v1012 => (lo_M_back_2 kp kS kR kP kQ a1 n) msd mrt mps mqt bd_1011 v1012)
theorem lo_M_back_2_z (kp : Nat → Int32) (kS : Nat → Int32) (kR : Nat → Int32) (kP : Nat → Int32) (kQ : Nat → Int32) (a1 : Int32) (msd : Int32) (mrt : Int32) (mps : Int32) (mqt : Int32) (bd : Nat → Int32) (x2 : Int32) : lo_M_back_2 kp kS kR kP kQ a1 0 msd mrt mps mqt bd x2 = none := rfl
theorem lo_M_back_2_s (kp : Nat → Int32) (kS : Nat → Int32) (kR : Nat → Int32) (kP : Nat → Int32) (kQ : Nat → Int32) (a1 : Int32) (msd : Int32) (mrt : Int32) (mps : Int32) (mqt : Int32) (bd : Nat → Int32) (x2 : Int32) (n : Nat) : lo_M_back_2 kp kS kR kP kQ a1 (n + 1) msd mrt mps mqt bd x2 = (if 64 ≤ x2 then (qq_ck (qq_in a1 4) <| qq_let (kS a1.toNatClampNeg) fun v1002 => qq_ck (qq_in a1 4) <| qq_let (kR a1.toNatClampNeg) fun v1004 => qq_ck (qq_in a1 4) <| qq_let (kP a1.toNatClampNeg) fun v1006 => qq_ck (qq_in a1 4) <| qq_let (kQ a1.toNatClampNeg) fun v1008 => some (v1002, v1004, v1006, v1008, bd)) else (qq_ck (qq_in ((64 * a1) + x2) 256) <| qq_ck (qq_in x2 64) <| qq_let (upd bd x2.toNatClampNeg (kp ((64 * a1) + x2).toNatClampNeg)) fun bd_1011 => qq_let (x2 + 1) fun v1012 => (lo_M_back_2 kp kS kR kP kQ a1 n) msd mrt mps mqt bd_1011 v1012)) := rfl
noncomputable def fn_M_back (msd : Int32) (mrt : Int32) (mps : Int32) (mqt : Int32) (bd : Nat → Int32) (kp : Nat → Int32) (kS : Nat → Int32) (kR : Nat → Int32) (kP : Nat → Int32) (kQ : Nat → Int32) (a1 : Int32) : Option ty_M_back := lo_M_back_2 kp kS kR kP kQ a1 qq_FU msd mrt mps mqt bd 0
abbrev rm_M_back : Room := { frames := 0, cells := 0, slots := 0, locals := 0 }
set_option maxHeartbeats 4000000 in
set_option maxRecDepth 100000 in
theorem ct_M_back (l : Launch) (dC : Nat → ClassId) (dI : Nat → Nat → Nat) (cI cL cR : ClassId) (oM obd opa opS opR opG opP opQ okp okS okR okP okQ oli : Nat) (mth : Int32) (mpl : Int32) (msd : Int32) (mrt : Int32) (mps : Int32) (mqt : Int32) (mmd : Int32) (bd : Nat → Int32) (pa : Nat → Int32) (pS : Nat → Int32) (pR : Nat → Int32) (pG : Nat → Int32) (pP : Nat → Int32) (pQ : Nat → Int32) (kp : Nat → Int32) (kS : Nat → Int32) (kR : Nat → Int32) (kP : Nat → Int32) (kQ : Nat → Int32) (li : Nat → Int32) (a1 : Int32) {msd' : Int32} {mrt' : Int32} {mps' : Int32} {mqt' : Int32} {bd' : Nat → Int32} (hf : fn_M_back msd mrt mps mqt bd kp kS kR kP kQ a1 = some (msd', mrt', mps', mqt', bd')) : qq_det l yy_M_back (ww_of yy_M_back bb_M_back 3 none) rm_M_back (dC, dI) (qq_ty cI cL cR) [.ref oM, .int a1] [(oM, .inr (5, [.int mth, .int mpl, .ref obd, .int msd, .int mrt, .int mps, .int mqt, .int mmd, .ref opa, .ref opS, .ref opR, .ref opG, .ref opP, .ref opQ, .ref okp, .ref okS, .ref okR, .ref okP, .ref okQ, .ref oli])), (obd, .inl (cI, 64, .inl bd)), (opa, .inl (cI, 9664, .inl pa)), (opS, .inl (cI, 151, .inl pS)), (opR, .inl (cI, 151, .inl pR)), (opG, .inl (cI, 151, .inl pG)), (opP, .inl (cI, 151, .inl pP)), (opQ, .inl (cI, 151, .inl pQ)), (okp, .inl (cI, 256, .inl kp)), (okS, .inl (cI, 4, .inl kS)), (okR, .inl (cI, 4, .inl kR)), (okP, .inl (cI, 4, .inl kP)), (okQ, .inl (cI, 4, .inl kQ)), (oli, .inl (cI, 1320, .inl li))] none [(oM, .inr (5, [.int mth, .int mpl, .ref obd, .int msd', .int mrt', .int mps', .int mqt', .int mmd, .ref opa, .ref opS, .ref opR, .ref opG, .ref opP, .ref opQ, .ref okp, .ref okS, .ref okR, .ref okP, .ref okQ, .ref oli])), (obd, .inl (cI, 64, .inl bd')), (opa, .inl (cI, 9664, .inl pa)), (opS, .inl (cI, 151, .inl pS)), (opR, .inl (cI, 151, .inl pR)), (opG, .inl (cI, 151, .inl pG)), (opP, .inl (cI, 151, .inl pP)), (opQ, .inl (cI, 151, .inl pQ)), (okp, .inl (cI, 256, .inl kp)), (okS, .inl (cI, 4, .inl kS)), (okR, .inl (cI, 4, .inl kR)), (okP, .inl (cI, 4, .inl kP)), (okQ, .inl (cI, 4, .inl kQ)), (oli, .inl (cI, 1320, .inl li))] := by
  refine qq_of (own := RR_M) (by decide) rfl (Nat.le_of_ble_eq_true rfl) ?_
  intro p e s m below meth c A Q ls hx hb hml hr hlocks hown hts hK hA hT hN hP hD hS hl hQ
  have hl : lv_has ls 3 [(0, .ref oM), (1, .int a1)] := hl
  have hL2 : ∀ (n2 : Nat) (msd : Int32) (mrt : Int32) (mps : Int32) (mqt : Int32) (bd : Nat → Int32) (x2 : Int32) (H : Heap) (locs : List Loc) (ls : Array Slot), lv_has ls 3 [(0, .ref oM), (1, .int a1), (2, .int x2)] → va_P (dC, dI) classes [(oM, .inr (5, [.int mth, .int mpl, .ref obd, .int msd, .int mrt, .int mps, .int mqt, .int mmd, .ref opa, .ref opS, .ref opR, .ref opG, .ref opP, .ref opQ, .ref okp, .ref okS, .ref okR, .ref okP, .ref okQ, .ref oli])), (obd, .inl (cI, 64, .inl bd)), (opa, .inl (cI, 9664, .inl pa)), (opS, .inl (cI, 151, .inl pS)), (opR, .inl (cI, 151, .inl pR)), (opG, .inl (cI, 151, .inl pG)), (opP, .inl (cI, 151, .inl pP)), (opQ, .inl (cI, 151, .inl pQ)), (okp, .inl (cI, 256, .inl kp)), (okS, .inl (cI, 4, .inl kS)), (okR, .inl (cI, 4, .inl kR)), (okP, .inl (cI, 4, .inl kP)), (okQ, .inl (cI, 4, .inl kQ)), (oli, .inl (cI, 1320, .inl li))] H → va_D A [(oM, .inr (5, [.int mth, .int mpl, .ref obd, .int msd, .int mrt, .int mps, .int mqt, .int mmd, .ref opa, .ref opS, .ref opR, .ref opG, .ref opP, .ref opQ, .ref okp, .ref okS, .ref okR, .ref okP, .ref okQ, .ref oli])), (obd, .inl (cI, 64, .inl bd)), (opa, .inl (cI, 9664, .inl pa)), (opS, .inl (cI, 151, .inl pS)), (opR, .inl (cI, 151, .inl pR)), (opG, .inl (cI, 151, .inl pG)), (opP, .inl (cI, 151, .inl pP)), (opQ, .inl (cI, 151, .inl pQ)), (okp, .inl (cI, 256, .inl kp)), (okS, .inl (cI, 4, .inl kS)), (okR, .inl (cI, 4, .inl kR)), (okP, .inl (cI, 4, .inl kP)), (okQ, .inl (cI, 4, .inl kQ)), (oli, .inl (cI, 1320, .inl li))] → va_S A s.heap H locs → lo_M_back_2 kp kS kR kP kQ a1 n2 msd mrt mps mqt bd x2 = some (msd', mrt', mps', mqt', bd') → W p l e rm_M_back s m ([.ref oM, .int a1] : List Value).toArray below meth c H locs 0 0 Q (F0 m 2 ls []) := by
    intro n2
    induction n2 with
    | zero => exact fun msd mrt mps mqt bd x2 H locs ls hl hP hD hS hf => absurd hf (by rw [lo_M_back_2_z]; exact fun h => by cases h)
    | succ n2 ih2 =>
      intro msd mrt mps mqt bd x2 H locs ls hl hP hD hS hf
      rw [lo_M_back_2_s] at hf
      refine lv_iload_n hx hb dd_M_back_2 rfl (lv_at hl 2 rfl) ?_
      refine lv_bipush (v := 64) hx hb dd_M_back_3 (by decide) ?_
      refine lv_icmp_ge (tgt := 31) hx hb dd_M_back_5 (by decide) (fun hc => ?_) (fun hc => ?_)
      · replace hf := qq_t hc hf
        refine lv_aload_n hx hb dd_M_back_31 rfl (lv_at hl 0 rfl) ?_
        refine lv_aload_n hx hb dd_M_back_32 rfl (lv_at hl 0 rfl) ?_
        refine va_get (D := (dC, dI)) (ci := 5) (v := .ref okS) (C := RR_M) (T := FF_M) (N := 20) hx hb hts uu_M hown hK hP 0 rfl rfl 15 (by decide) (hts _ mm_264) (fun _ h9 => h9) rfl dd_M_back_33 ?_
        refine lv_iload_n hx hb dd_M_back_36 rfl (lv_at hl 1 rfl) ?_
        obtain ⟨hi1001, hf⟩ := qq_ckE hf
        refine va_iald (D := (dC, dI)) (f := kS) (n := 4) (cA := cI) hx hb hK hP 9 0 rfl rfl (qq_inE hi1001) dd_M_back_37 ?_
        refine lv_topi (fun v1002 ev1002 => ?_)
        replace hf := qq_lt ev1002 hf
        refine va_put (D := (dC, dI)) (ci := 5) (v := .int v1002) (ty := .int) (C := RR_M) (T := FF_M) (N := 20) hx hb hts uu_M tt_M tt_M_ok nn_M hown hK hP hD hS 0 rfl rfl 3 (by decide) (hts _ mm_228) (fun _ h9 => h9) rfl (by decide +kernel) rfl rfl (Nat.le_of_ble_eq_true rfl) dd_M_back_38 (fun H locs hP hD hS => ?_)
        have hP : va_P (dC, dI) classes [(oM, .inr (5, [.int mth, .int mpl, .ref obd, .int v1002, .int mrt, .int mps, .int mqt, .int mmd, .ref opa, .ref opS, .ref opR, .ref opG, .ref opP, .ref opQ, .ref okp, .ref okS, .ref okR, .ref okP, .ref okQ, .ref oli])), (obd, .inl (cI, 64, .inl bd)), (opa, .inl (cI, 9664, .inl pa)), (opS, .inl (cI, 151, .inl pS)), (opR, .inl (cI, 151, .inl pR)), (opG, .inl (cI, 151, .inl pG)), (opP, .inl (cI, 151, .inl pP)), (opQ, .inl (cI, 151, .inl pQ)), (okp, .inl (cI, 256, .inl kp)), (okS, .inl (cI, 4, .inl kS)), (okR, .inl (cI, 4, .inl kR)), (okP, .inl (cI, 4, .inl kP)), (okQ, .inl (cI, 4, .inl kQ)), (oli, .inl (cI, 1320, .inl li))] H := hP
        have hD : va_D A [(oM, .inr (5, [.int mth, .int mpl, .ref obd, .int v1002, .int mrt, .int mps, .int mqt, .int mmd, .ref opa, .ref opS, .ref opR, .ref opG, .ref opP, .ref opQ, .ref okp, .ref okS, .ref okR, .ref okP, .ref okQ, .ref oli])), (obd, .inl (cI, 64, .inl bd)), (opa, .inl (cI, 9664, .inl pa)), (opS, .inl (cI, 151, .inl pS)), (opR, .inl (cI, 151, .inl pR)), (opG, .inl (cI, 151, .inl pG)), (opP, .inl (cI, 151, .inl pP)), (opQ, .inl (cI, 151, .inl pQ)), (okp, .inl (cI, 256, .inl kp)), (okS, .inl (cI, 4, .inl kS)), (okR, .inl (cI, 4, .inl kR)), (okP, .inl (cI, 4, .inl kP)), (okQ, .inl (cI, 4, .inl kQ)), (oli, .inl (cI, 1320, .inl li))] := hD
        refine lv_aload_n hx hb dd_M_back_41 rfl (lv_at hl 0 rfl) ?_
        refine lv_aload_n hx hb dd_M_back_42 rfl (lv_at hl 0 rfl) ?_
        refine va_get (D := (dC, dI)) (ci := 5) (v := .ref okR) (C := RR_M) (T := FF_M) (N := 20) hx hb hts uu_M hown hK hP 0 rfl rfl 16 (by decide) (hts _ mm_265) (fun _ h9 => h9) rfl dd_M_back_43 ?_
        refine lv_iload_n hx hb dd_M_back_46 rfl (lv_at hl 1 rfl) ?_
        obtain ⟨hi1003, hf⟩ := qq_ckE hf
        refine va_iald (D := (dC, dI)) (f := kR) (n := 4) (cA := cI) hx hb hK hP 10 0 rfl rfl (qq_inE hi1003) dd_M_back_47 ?_
        refine lv_topi (fun v1004 ev1004 => ?_)
        replace hf := qq_lt ev1004 hf
        refine va_put (D := (dC, dI)) (ci := 5) (v := .int v1004) (ty := .int) (C := RR_M) (T := FF_M) (N := 20) hx hb hts uu_M tt_M tt_M_ok nn_M hown hK hP hD hS 0 rfl rfl 4 (by decide) (hts _ mm_255) (fun _ h9 => h9) rfl (by decide +kernel) rfl rfl (Nat.le_of_ble_eq_true rfl) dd_M_back_48 (fun H locs hP hD hS => ?_)
        have hP : va_P (dC, dI) classes [(oM, .inr (5, [.int mth, .int mpl, .ref obd, .int v1002, .int v1004, .int mps, .int mqt, .int mmd, .ref opa, .ref opS, .ref opR, .ref opG, .ref opP, .ref opQ, .ref okp, .ref okS, .ref okR, .ref okP, .ref okQ, .ref oli])), (obd, .inl (cI, 64, .inl bd)), (opa, .inl (cI, 9664, .inl pa)), (opS, .inl (cI, 151, .inl pS)), (opR, .inl (cI, 151, .inl pR)), (opG, .inl (cI, 151, .inl pG)), (opP, .inl (cI, 151, .inl pP)), (opQ, .inl (cI, 151, .inl pQ)), (okp, .inl (cI, 256, .inl kp)), (okS, .inl (cI, 4, .inl kS)), (okR, .inl (cI, 4, .inl kR)), (okP, .inl (cI, 4, .inl kP)), (okQ, .inl (cI, 4, .inl kQ)), (oli, .inl (cI, 1320, .inl li))] H := hP
        have hD : va_D A [(oM, .inr (5, [.int mth, .int mpl, .ref obd, .int v1002, .int v1004, .int mps, .int mqt, .int mmd, .ref opa, .ref opS, .ref opR, .ref opG, .ref opP, .ref opQ, .ref okp, .ref okS, .ref okR, .ref okP, .ref okQ, .ref oli])), (obd, .inl (cI, 64, .inl bd)), (opa, .inl (cI, 9664, .inl pa)), (opS, .inl (cI, 151, .inl pS)), (opR, .inl (cI, 151, .inl pR)), (opG, .inl (cI, 151, .inl pG)), (opP, .inl (cI, 151, .inl pP)), (opQ, .inl (cI, 151, .inl pQ)), (okp, .inl (cI, 256, .inl kp)), (okS, .inl (cI, 4, .inl kS)), (okR, .inl (cI, 4, .inl kR)), (okP, .inl (cI, 4, .inl kP)), (okQ, .inl (cI, 4, .inl kQ)), (oli, .inl (cI, 1320, .inl li))] := hD
        refine lv_aload_n hx hb dd_M_back_51 rfl (lv_at hl 0 rfl) ?_
        refine lv_aload_n hx hb dd_M_back_52 rfl (lv_at hl 0 rfl) ?_
        refine va_get (D := (dC, dI)) (ci := 5) (v := .ref okP) (C := RR_M) (T := FF_M) (N := 20) hx hb hts uu_M hown hK hP 0 rfl rfl 17 (by decide) (hts _ mm_266) (fun _ h9 => h9) rfl dd_M_back_53 ?_
        refine lv_iload_n hx hb dd_M_back_56 rfl (lv_at hl 1 rfl) ?_
        obtain ⟨hi1005, hf⟩ := qq_ckE hf
        refine va_iald (D := (dC, dI)) (f := kP) (n := 4) (cA := cI) hx hb hK hP 11 0 rfl rfl (qq_inE hi1005) dd_M_back_57 ?_
        refine lv_topi (fun v1006 ev1006 => ?_)
        replace hf := qq_lt ev1006 hf
        refine va_put (D := (dC, dI)) (ci := 5) (v := .int v1006) (ty := .int) (C := RR_M) (T := FF_M) (N := 20) hx hb hts uu_M tt_M tt_M_ok nn_M hown hK hP hD hS 0 rfl rfl 5 (by decide) (hts _ mm_227) (fun _ h9 => h9) rfl (by decide +kernel) rfl rfl (Nat.le_of_ble_eq_true rfl) dd_M_back_58 (fun H locs hP hD hS => ?_)
        have hP : va_P (dC, dI) classes [(oM, .inr (5, [.int mth, .int mpl, .ref obd, .int v1002, .int v1004, .int v1006, .int mqt, .int mmd, .ref opa, .ref opS, .ref opR, .ref opG, .ref opP, .ref opQ, .ref okp, .ref okS, .ref okR, .ref okP, .ref okQ, .ref oli])), (obd, .inl (cI, 64, .inl bd)), (opa, .inl (cI, 9664, .inl pa)), (opS, .inl (cI, 151, .inl pS)), (opR, .inl (cI, 151, .inl pR)), (opG, .inl (cI, 151, .inl pG)), (opP, .inl (cI, 151, .inl pP)), (opQ, .inl (cI, 151, .inl pQ)), (okp, .inl (cI, 256, .inl kp)), (okS, .inl (cI, 4, .inl kS)), (okR, .inl (cI, 4, .inl kR)), (okP, .inl (cI, 4, .inl kP)), (okQ, .inl (cI, 4, .inl kQ)), (oli, .inl (cI, 1320, .inl li))] H := hP
        have hD : va_D A [(oM, .inr (5, [.int mth, .int mpl, .ref obd, .int v1002, .int v1004, .int v1006, .int mqt, .int mmd, .ref opa, .ref opS, .ref opR, .ref opG, .ref opP, .ref opQ, .ref okp, .ref okS, .ref okR, .ref okP, .ref okQ, .ref oli])), (obd, .inl (cI, 64, .inl bd)), (opa, .inl (cI, 9664, .inl pa)), (opS, .inl (cI, 151, .inl pS)), (opR, .inl (cI, 151, .inl pR)), (opG, .inl (cI, 151, .inl pG)), (opP, .inl (cI, 151, .inl pP)), (opQ, .inl (cI, 151, .inl pQ)), (okp, .inl (cI, 256, .inl kp)), (okS, .inl (cI, 4, .inl kS)), (okR, .inl (cI, 4, .inl kR)), (okP, .inl (cI, 4, .inl kP)), (okQ, .inl (cI, 4, .inl kQ)), (oli, .inl (cI, 1320, .inl li))] := hD
        refine lv_aload_n hx hb dd_M_back_61 rfl (lv_at hl 0 rfl) ?_
        refine lv_aload_n hx hb dd_M_back_62 rfl (lv_at hl 0 rfl) ?_
        refine va_get (D := (dC, dI)) (ci := 5) (v := .ref okQ) (C := RR_M) (T := FF_M) (N := 20) hx hb hts uu_M hown hK hP 0 rfl rfl 18 (by decide) (hts _ mm_267) (fun _ h9 => h9) rfl dd_M_back_63 ?_
        refine lv_iload_n hx hb dd_M_back_66 rfl (lv_at hl 1 rfl) ?_
        obtain ⟨hi1007, hf⟩ := qq_ckE hf
        refine va_iald (D := (dC, dI)) (f := kQ) (n := 4) (cA := cI) hx hb hK hP 12 0 rfl rfl (qq_inE hi1007) dd_M_back_67 ?_
        refine lv_topi (fun v1008 ev1008 => ?_)
        replace hf := qq_lt ev1008 hf
        refine va_put (D := (dC, dI)) (ci := 5) (v := .int v1008) (ty := .int) (C := RR_M) (T := FF_M) (N := 20) hx hb hts uu_M tt_M tt_M_ok nn_M hown hK hP hD hS 0 rfl rfl 6 (by decide) (hts _ mm_268) (fun _ h9 => h9) rfl (by decide +kernel) rfl rfl (Nat.le_of_ble_eq_true rfl) dd_M_back_68 (fun H locs hP hD hS => ?_)
        have hP : va_P (dC, dI) classes [(oM, .inr (5, [.int mth, .int mpl, .ref obd, .int v1002, .int v1004, .int v1006, .int v1008, .int mmd, .ref opa, .ref opS, .ref opR, .ref opG, .ref opP, .ref opQ, .ref okp, .ref okS, .ref okR, .ref okP, .ref okQ, .ref oli])), (obd, .inl (cI, 64, .inl bd)), (opa, .inl (cI, 9664, .inl pa)), (opS, .inl (cI, 151, .inl pS)), (opR, .inl (cI, 151, .inl pR)), (opG, .inl (cI, 151, .inl pG)), (opP, .inl (cI, 151, .inl pP)), (opQ, .inl (cI, 151, .inl pQ)), (okp, .inl (cI, 256, .inl kp)), (okS, .inl (cI, 4, .inl kS)), (okR, .inl (cI, 4, .inl kR)), (okP, .inl (cI, 4, .inl kP)), (okQ, .inl (cI, 4, .inl kQ)), (oli, .inl (cI, 1320, .inl li))] H := hP
        have hD : va_D A [(oM, .inr (5, [.int mth, .int mpl, .ref obd, .int v1002, .int v1004, .int v1006, .int v1008, .int mmd, .ref opa, .ref opS, .ref opR, .ref opG, .ref opP, .ref opQ, .ref okp, .ref okS, .ref okR, .ref okP, .ref okQ, .ref oli])), (obd, .inl (cI, 64, .inl bd)), (opa, .inl (cI, 9664, .inl pa)), (opS, .inl (cI, 151, .inl pS)), (opR, .inl (cI, 151, .inl pR)), (opG, .inl (cI, 151, .inl pG)), (opP, .inl (cI, 151, .inl pP)), (opQ, .inl (cI, 151, .inl pQ)), (okp, .inl (cI, 256, .inl kp)), (okS, .inl (cI, 4, .inl kS)), (okR, .inl (cI, 4, .inl kR)), (okP, .inl (cI, 4, .inl kP)), (okQ, .inl (cI, 4, .inl kQ)), (oli, .inl (cI, 1320, .inl li))] := hD
        cases hf
        exact qq_vret hx hb hr hlocks hQ hP hD hK hS dd_M_back_71
      · replace hf := qq_f hc hf
        refine lv_aload_n hx hb dd_M_back_8 rfl (lv_at hl 0 rfl) ?_
        refine va_get (D := (dC, dI)) (ci := 5) (v := .ref obd) (C := RR_M) (T := FF_M) (N := 20) hx hb hts uu_M hown hK hP 0 rfl rfl 2 (by decide) (hts _ mm_209) (fun _ h9 => h9) rfl dd_M_back_9 ?_
        refine lv_iload_n hx hb dd_M_back_12 rfl (lv_at hl 2 rfl) ?_
        refine lv_aload_n hx hb dd_M_back_13 rfl (lv_at hl 0 rfl) ?_
        refine va_get (D := (dC, dI)) (ci := 5) (v := .ref okp) (C := RR_M) (T := FF_M) (N := 20) hx hb hts uu_M hown hK hP 0 rfl rfl 14 (by decide) (hts _ mm_269) (fun _ h9 => h9) rfl dd_M_back_14 ?_
        refine lv_bipush (v := 64) hx hb dd_M_back_17 (by decide) ?_
        refine lv_iload_n hx hb dd_M_back_19 rfl (lv_at hl 1 rfl) ?_
        refine lv_imul hx hb dd_M_back_20 ?_
        refine lv_iload_n hx hb dd_M_back_21 rfl (lv_at hl 2 rfl) ?_
        refine lv_iadd hx hb dd_M_back_22 ?_
        obtain ⟨hi1009, hf⟩ := qq_ckE hf
        refine va_iald (D := (dC, dI)) (f := kp) (n := 256) (cA := cI) hx hb hK hP 8 0 rfl rfl (qq_inE hi1009) dd_M_back_23 ?_
        obtain ⟨hi1010, hf⟩ := qq_ckE hf
        refine va_iast (D := (dC, dI)) (f := bd) (n := 64) (cA := cI) hx hb hK hP hD hS 1 0 rfl rfl (qq_inE hi1010) dd_M_back_24 (fun H locs hP hD hS => ?_)
        obtain ⟨bd_1011, ebd_1011⟩ : ∃ z, z = upd bd x2.toNatClampNeg (kp ((64 * a1) + x2).toNatClampNeg) := ⟨_, rfl⟩
        replace hf := qq_lt ebd_1011 hf
        have hP : va_P (dC, dI) classes [(oM, .inr (5, [.int mth, .int mpl, .ref obd, .int msd, .int mrt, .int mps, .int mqt, .int mmd, .ref opa, .ref opS, .ref opR, .ref opG, .ref opP, .ref opQ, .ref okp, .ref okS, .ref okR, .ref okP, .ref okQ, .ref oli])), (obd, .inl (cI, 64, .inl bd_1011)), (opa, .inl (cI, 9664, .inl pa)), (opS, .inl (cI, 151, .inl pS)), (opR, .inl (cI, 151, .inl pR)), (opG, .inl (cI, 151, .inl pG)), (opP, .inl (cI, 151, .inl pP)), (opQ, .inl (cI, 151, .inl pQ)), (okp, .inl (cI, 256, .inl kp)), (okS, .inl (cI, 4, .inl kS)), (okR, .inl (cI, 4, .inl kR)), (okP, .inl (cI, 4, .inl kP)), (okQ, .inl (cI, 4, .inl kQ)), (oli, .inl (cI, 1320, .inl li))] H := by rw [ebd_1011]; exact hP
        have hD : va_D A [(oM, .inr (5, [.int mth, .int mpl, .ref obd, .int msd, .int mrt, .int mps, .int mqt, .int mmd, .ref opa, .ref opS, .ref opR, .ref opG, .ref opP, .ref opQ, .ref okp, .ref okS, .ref okR, .ref okP, .ref okQ, .ref oli])), (obd, .inl (cI, 64, .inl bd_1011)), (opa, .inl (cI, 9664, .inl pa)), (opS, .inl (cI, 151, .inl pS)), (opR, .inl (cI, 151, .inl pR)), (opG, .inl (cI, 151, .inl pG)), (opP, .inl (cI, 151, .inl pP)), (opQ, .inl (cI, 151, .inl pQ)), (okp, .inl (cI, 256, .inl kp)), (okS, .inl (cI, 4, .inl kS)), (okR, .inl (cI, 4, .inl kR)), (okP, .inl (cI, 4, .inl kP)), (okQ, .inl (cI, 4, .inl kQ)), (oli, .inl (cI, 1320, .inl li))] := by rw [ebd_1011]; exact hD
        obtain ⟨v1012, ev1012⟩ : ∃ z, z = x2 + 1 := ⟨_, rfl⟩
        replace hf := qq_lt ev1012 hf
        refine lv_iinc (k := 2) (v := v1012) (lv' := [(2, .int v1012), (0, .ref oM), (1, .int a1)]) hx hb dd_M_back_25 hl rfl (by rw [ev1012]; exact congrArg _ (by decide)) (by decide) rfl (fun ls hl => ?_)
        refine lv_goto (tgt := 2) hx hb dd_M_back_28 (by decide) ?_
        exact ih2 msd mrt mps mqt bd_1011 v1012 _ _ _ (lv_sub hl [1, 2, 0] rfl) hP hD hS hf
  rw [fn_M_back] at hf
  refine lv_iconst (v := 0) hx hb dd_M_back_0 (by decide) ?_
  refine lv_istore_n (lv' := [(2, .int 0), (0, .ref oM), (1, .int a1)]) hx hb dd_M_back_1 rfl hl (by decide) rfl (fun ls hl => ?_)
  exact hL2 qq_FU msd mrt mps mqt bd 0 _ _ _ (lv_sub hl [1, 2, 0] rfl) hP hD hS hf
theorem dd_M_isMove_0 : decode bb_M_isMove 0 = .ok (.aload_n 0, 1) := by decide +kernel
theorem dd_M_isMove_1 : decode bb_M_isMove 1 = .ok (.iload_n 1, 1) := by decide +kernel
theorem dd_M_isMove_2 : decode bb_M_isMove 2 = .ok (.iload_n 2, 1) := by decide +kernel
theorem dd_M_isMove_3 : decode bb_M_isMove 3 = .ok (.iload_n 3, 1) := by decide +kernel
theorem dd_M_isMove_4 : decode bb_M_isMove 4 = .ok (.invokevirtual 121, 3) := by decide +kernel
theorem dd_M_isMove_7 : decode bb_M_isMove 7 = .ok (.ifCond .ne 5, 3) := by decide +kernel
theorem dd_M_isMove_10 : decode bb_M_isMove 10 = .ok (.iconst 0, 1) := by decide +kernel
theorem dd_M_isMove_11 : decode bb_M_isMove 11 = .ok (.ireturn, 1) := by decide +kernel
theorem dd_M_isMove_12 : decode bb_M_isMove 12 = .ok (.aload_n 0, 1) := by decide +kernel
theorem dd_M_isMove_13 : decode bb_M_isMove 13 = .ok (.iconst 3, 1) := by decide +kernel
theorem dd_M_isMove_14 : decode bb_M_isMove 14 = .ok (.invokevirtual 124, 3) := by decide +kernel
theorem dd_M_isMove_17 : decode bb_M_isMove 17 = .ok (.aload_n 0, 1) := by decide +kernel
theorem dd_M_isMove_18 : decode bb_M_isMove 18 = .ok (.iload_n 1, 1) := by decide +kernel
theorem dd_M_isMove_19 : decode bb_M_isMove 19 = .ok (.iload_n 2, 1) := by decide +kernel
theorem dd_M_isMove_20 : decode bb_M_isMove 20 = .ok (.iload_n 3, 1) := by decide +kernel
theorem dd_M_isMove_21 : decode bb_M_isMove 21 = .ok (.invokevirtual 128, 3) := by decide +kernel
theorem dd_M_isMove_24 : decode bb_M_isMove 24 = .ok (.aload_n 0, 1) := by decide +kernel
theorem dd_M_isMove_25 : decode bb_M_isMove 25 = .ok (.iconst 1, 1) := by decide +kernel
theorem dd_M_isMove_26 : decode bb_M_isMove 26 = .ok (.aload_n 0, 1) := by decide +kernel
theorem dd_M_isMove_27 : decode bb_M_isMove 27 = .ok (.getfield 95, 3) := by decide +kernel
theorem dd_M_isMove_30 : decode bb_M_isMove 30 = .ok (.isub, 1) := by decide +kernel
theorem dd_M_isMove_31 : decode bb_M_isMove 31 = .ok (.invokevirtual 105, 3) := by decide +kernel
theorem dd_M_isMove_34 : decode bb_M_isMove 34 = .ok (.ifCond .ne 7, 3) := by decide +kernel
theorem dd_M_isMove_37 : decode bb_M_isMove 37 = .ok (.iconst 1, 1) := by decide +kernel
theorem dd_M_isMove_38 : decode bb_M_isMove 38 = .ok (.goto 4, 3) := by decide +kernel
theorem dd_M_isMove_41 : decode bb_M_isMove 41 = .ok (.iconst 0, 1) := by decide +kernel
theorem dd_M_isMove_42 : decode bb_M_isMove 42 = .ok (.istore 4, 2) := by decide +kernel
theorem dd_M_isMove_44 : decode bb_M_isMove 44 = .ok (.aload_n 0, 1) := by decide +kernel
theorem dd_M_isMove_45 : decode bb_M_isMove 45 = .ok (.iconst 3, 1) := by decide +kernel
theorem dd_M_isMove_46 : decode bb_M_isMove 46 = .ok (.invokevirtual 132, 3) := by decide +kernel
theorem dd_M_isMove_49 : decode bb_M_isMove 49 = .ok (.iload 4, 2) := by decide +kernel
theorem dd_M_isMove_51 : decode bb_M_isMove 51 = .ok (.ireturn, 1) := by decide +kernel
abbrev ty_M_isMove : Type := Int32 × Int32 × Int32 × Int32 × Int32 × (Nat → Int32) × (Nat → Int32) × (Nat → Int32) × (Nat → Int32) × (Nat → Int32) × (Nat → Int32)
noncomputable def bk_M_isMove_42 (a1 : Int32) (a2 : Int32) (a3 : Int32) (msd : Int32) (mrt : Int32) (mps : Int32) (mqt : Int32) (bd : Nat → Int32) (kp : Nat → Int32) (kS : Nat → Int32) (kR : Nat → Int32) (kP : Nat → Int32) (kQ : Nat → Int32) (s0 : Int32) : Option ty_M_isMove := (fn_M_back msd mrt mps mqt bd kp kS kR kP kQ 3).bind fun (msd_1001, mrt_1002, mps_1003, mqt_1004, bd_1005) => qq_ck (qq_b s0) <| some (s0, msd_1001, mrt_1002, mps_1003, mqt_1004, bd_1005, kp, kS, kR, kP, kQ)
noncomputable def fn_M_isMove (msd : Int32) (mrt : Int32) (mps : Int32) (mqt : Int32) (bd : Nat → Int32) (kp : Nat → Int32) (kS : Nat → Int32) (kR : Nat → Int32) (kP : Nat → Int32) (kQ : Nat → Int32) (a1 : Int32) (a2 : Int32) (a3 : Int32) : Option ty_M_isMove := (fn_M_goes msd mrt mps bd a1 a2 a3).bind fun r1 => if r1 = 0 then (some (0, msd, mrt, mps, mqt, bd, kp, kS, kR, kP, kQ)) else ((fn_M_keep msd mrt mps mqt bd kp kS kR kP kQ 3).bind fun (kp_2, kS_3, kR_4, kP_5, kQ_6) => (fn_M_go msd mrt mps mqt bd a1 a2 a3).bind fun (msd_7, mrt_8, mps_9, mqt_10, bd_11) => (fn_M_isChecked bd_11 (1 - msd_7)).bind fun r12 => if r12 = 0 then (bk_M_isMove_42 a1 a2 a3 msd_7 mrt_8 mps_9 mqt_10 bd_11 kp_2 kS_3 kR_4 kP_5 kQ_6 1) else (bk_M_isMove_42 a1 a2 a3 msd_7 mrt_8 mps_9 mqt_10 bd_11 kp_2 kS_3 kR_4 kP_5 kQ_6 0))
abbrev rm_M_isMove : Room := { frames := 7, cells := 0, slots := 0, locals := 164 }
set_option maxHeartbeats 4000000 in
set_option maxRecDepth 100000 in
theorem ct_M_isMove (l : Launch) (dC : Nat → ClassId) (dI : Nat → Nat → Nat) (cI cL cR : ClassId) (oM obd opa opS opR opG opP opQ okp okS okR okP okQ oli : Nat) (mth : Int32) (mpl : Int32) (msd : Int32) (mrt : Int32) (mps : Int32) (mqt : Int32) (mmd : Int32) (bd : Nat → Int32) (pa : Nat → Int32) (pS : Nat → Int32) (pR : Nat → Int32) (pG : Nat → Int32) (pP : Nat → Int32) (pQ : Nat → Int32) (kp : Nat → Int32) (kS : Nat → Int32) (kR : Nat → Int32) (kP : Nat → Int32) (kQ : Nat → Int32) (li : Nat → Int32) (a1 : Int32) (a2 : Int32) (a3 : Int32) {rr : Int32} {msd' : Int32} {mrt' : Int32} {mps' : Int32} {mqt' : Int32} {bd' : Nat → Int32} {kp' : Nat → Int32} {kS' : Nat → Int32} {kR' : Nat → Int32} {kP' : Nat → Int32} {kQ' : Nat → Int32} (hf : fn_M_isMove msd mrt mps mqt bd kp kS kR kP kQ a1 a2 a3 = some (rr, msd', mrt', mps', mqt', bd', kp', kS', kR', kP', kQ')) : qq_det l yy_M_isMove (ww_of yy_M_isMove bb_M_isMove 5 (some .boolean)) rm_M_isMove (dC, dI) (qq_ty cI cL cR) [.ref oM, .int a1, .int a2, .int a3] [(oM, .inr (5, [.int mth, .int mpl, .ref obd, .int msd, .int mrt, .int mps, .int mqt, .int mmd, .ref opa, .ref opS, .ref opR, .ref opG, .ref opP, .ref opQ, .ref okp, .ref okS, .ref okR, .ref okP, .ref okQ, .ref oli])), (obd, .inl (cI, 64, .inl bd)), (opa, .inl (cI, 9664, .inl pa)), (opS, .inl (cI, 151, .inl pS)), (opR, .inl (cI, 151, .inl pR)), (opG, .inl (cI, 151, .inl pG)), (opP, .inl (cI, 151, .inl pP)), (opQ, .inl (cI, 151, .inl pQ)), (okp, .inl (cI, 256, .inl kp)), (okS, .inl (cI, 4, .inl kS)), (okR, .inl (cI, 4, .inl kR)), (okP, .inl (cI, 4, .inl kP)), (okQ, .inl (cI, 4, .inl kQ)), (oli, .inl (cI, 1320, .inl li))] (some (.int rr)) [(oM, .inr (5, [.int mth, .int mpl, .ref obd, .int msd', .int mrt', .int mps', .int mqt', .int mmd, .ref opa, .ref opS, .ref opR, .ref opG, .ref opP, .ref opQ, .ref okp, .ref okS, .ref okR, .ref okP, .ref okQ, .ref oli])), (obd, .inl (cI, 64, .inl bd')), (opa, .inl (cI, 9664, .inl pa)), (opS, .inl (cI, 151, .inl pS)), (opR, .inl (cI, 151, .inl pR)), (opG, .inl (cI, 151, .inl pG)), (opP, .inl (cI, 151, .inl pP)), (opQ, .inl (cI, 151, .inl pQ)), (okp, .inl (cI, 256, .inl kp')), (okS, .inl (cI, 4, .inl kS')), (okR, .inl (cI, 4, .inl kR')), (okP, .inl (cI, 4, .inl kP')), (okQ, .inl (cI, 4, .inl kQ')), (oli, .inl (cI, 1320, .inl li))] := by
  refine qq_of (own := RR_M) (by decide) rfl (Nat.le_of_ble_eq_true rfl) ?_
  intro p e s m below meth c A Q ls hx hb hml hr hlocks hown hts hK hA hT hN hP hD hS hl hQ
  have hl : lv_has ls 5 [(0, .ref oM), (1, .int a1), (2, .int a2), (3, .int a3)] := hl
  have hJ42 : ∀ (msd : Int32) (mrt : Int32) (mps : Int32) (mqt : Int32) (bd : Nat → Int32) (kp : Nat → Int32) (kS : Nat → Int32) (kR : Nat → Int32) (kP : Nat → Int32) (kQ : Nat → Int32) (s0 : Int32) (H : Heap) (locs : List Loc) (ls : Array Slot), lv_has ls 5 [(0, .ref oM)] → va_P (dC, dI) classes [(oM, .inr (5, [.int mth, .int mpl, .ref obd, .int msd, .int mrt, .int mps, .int mqt, .int mmd, .ref opa, .ref opS, .ref opR, .ref opG, .ref opP, .ref opQ, .ref okp, .ref okS, .ref okR, .ref okP, .ref okQ, .ref oli])), (obd, .inl (cI, 64, .inl bd)), (opa, .inl (cI, 9664, .inl pa)), (opS, .inl (cI, 151, .inl pS)), (opR, .inl (cI, 151, .inl pR)), (opG, .inl (cI, 151, .inl pG)), (opP, .inl (cI, 151, .inl pP)), (opQ, .inl (cI, 151, .inl pQ)), (okp, .inl (cI, 256, .inl kp)), (okS, .inl (cI, 4, .inl kS)), (okR, .inl (cI, 4, .inl kR)), (okP, .inl (cI, 4, .inl kP)), (okQ, .inl (cI, 4, .inl kQ)), (oli, .inl (cI, 1320, .inl li))] H → va_D A [(oM, .inr (5, [.int mth, .int mpl, .ref obd, .int msd, .int mrt, .int mps, .int mqt, .int mmd, .ref opa, .ref opS, .ref opR, .ref opG, .ref opP, .ref opQ, .ref okp, .ref okS, .ref okR, .ref okP, .ref okQ, .ref oli])), (obd, .inl (cI, 64, .inl bd)), (opa, .inl (cI, 9664, .inl pa)), (opS, .inl (cI, 151, .inl pS)), (opR, .inl (cI, 151, .inl pR)), (opG, .inl (cI, 151, .inl pG)), (opP, .inl (cI, 151, .inl pP)), (opQ, .inl (cI, 151, .inl pQ)), (okp, .inl (cI, 256, .inl kp)), (okS, .inl (cI, 4, .inl kS)), (okR, .inl (cI, 4, .inl kR)), (okP, .inl (cI, 4, .inl kP)), (okQ, .inl (cI, 4, .inl kQ)), (oli, .inl (cI, 1320, .inl li))] → va_S A s.heap H locs → bk_M_isMove_42 a1 a2 a3 msd mrt mps mqt bd kp kS kR kP kQ s0 = some (rr, msd', mrt', mps', mqt', bd', kp', kS', kR', kP', kQ') → W p l e rm_M_isMove s m ([.ref oM, .int a1, .int a2, .int a3] : List Value).toArray below meth c H locs 0 0 Q (F0 m 42 ls [.int s0]) := by
    intro msd mrt mps mqt bd kp kS kR kP kQ s0 H locs ls hl hP hD hS hf
    rw [bk_M_isMove_42] at hf
    refine lv_istore (lv' := [(4, .int s0), (0, .ref oM)]) hx hb dd_M_isMove_42 hl (by decide) rfl (fun ls hl => ?_)
    refine lv_aload_n hx hb dd_M_isMove_44 rfl (lv_at hl 1 rfl) ?_
    refine lv_iconst (v := 3) hx hb dd_M_isMove_45 (by decide) ?_
    obtain ⟨⟨msd_1001, mrt_1002, mps_1003, mqt_1004, bd_1005⟩, hy1005, hf⟩ := qq_bd hf
    dsimp only at hf
    refine qq_V (As := [.int 3]) (rest := []) (wr := []) (wf := [(oM, .inr (5, [.int mth, .int mpl, .ref obd, .int msd_1001, .int mrt_1002, .int mps_1003, .int mqt_1004, .int mmd, .ref opa, .ref opS, .ref opR, .ref opG, .ref opP, .ref opQ, .ref okp, .ref okS, .ref okR, .ref okP, .ref okQ, .ref oli])), (obd, .inl (cI, 64, .inl bd_1005)), (opa, .inl (cI, 9664, .inl pa)), (opS, .inl (cI, 151, .inl pS)), (opR, .inl (cI, 151, .inl pR)), (opG, .inl (cI, 151, .inl pG)), (opP, .inl (cI, 151, .inl pP)), (opQ, .inl (cI, 151, .inl pQ)), (okp, .inl (cI, 256, .inl kp)), (okS, .inl (cI, 4, .inl kS)), (okR, .inl (cI, 4, .inl kR)), (okP, .inl (cI, 4, .inl kP)), (okQ, .inl (cI, 4, .inl kQ)), (oli, .inl (cI, 1320, .inl li))]) ⟨hx, hb, hml, hown, hts⟩ (ct_M_back l dC dI cI cL cR oM obd opa opS opR opG opP opQ okp okS okR okP okQ oli mth mpl msd mrt mps mqt mmd bd pa pS pR pG pP pQ kp kS kR kP kQ li 3 hy1005) mm_274 mm_275 mm_276 mm_273 mm_211 hd_M_back (by decide) qq_00 hP hD hK hS hA hT hN (q0 := 0) (ci := 5) rfl rfl [0, 1, 2, 3, 4, 5, 6, 7, 8, 9, 10, 11, 12, 13] [] [0, 1, 2, 3, 4, 5, 6, 7, 8, 9, 10, 11, 12, 13] rfl rfl rfl (by decide) rfl hl.1 rfl (Nat.le_of_ble_eq_true rfl) dd_M_isMove_46 (fun H locs hP hD hS => ?_)
    refine W.eq (g2 := F0 m 49 ls []) rfl ?_
    refine lv_iload hx hb dd_M_isMove_49 (lv_at hl 0 rfl) ?_
    obtain ⟨hzb, hf⟩ := qq_ckE hf
    cases hf
    exact qq_zret hx hb hr (qq_bE hzb) hlocks hQ hP hD hK hS dd_M_isMove_51
  rw [fn_M_isMove] at hf
  refine lv_aload_n hx hb dd_M_isMove_0 rfl (lv_at hl 0 rfl) ?_
  refine lv_iload_n hx hb dd_M_isMove_1 rfl (lv_at hl 1 rfl) ?_
  refine lv_iload_n hx hb dd_M_isMove_2 rfl (lv_at hl 2 rfl) ?_
  refine lv_iload_n hx hb dd_M_isMove_3 rfl (lv_at hl 3 rfl) ?_
  obtain ⟨r1, hy1, hf⟩ := qq_bd hf
  refine qq_V (As := [.int a1, .int a2, .int a3]) (rest := []) (wr := []) (wf := [(oM, .inr (5, [.int mth, .int mpl, .ref obd, .int msd, .int mrt, .int mps, .int mqt, .int mmd, .ref opa, .ref opS, .ref opR, .ref opG, .ref opP, .ref opQ, .ref okp, .ref okS, .ref okR, .ref okP, .ref okQ, .ref oli])), (obd, .inl (cI, 64, .inl bd)), (opa, .inl (cI, 9664, .inl pa)), (opS, .inl (cI, 151, .inl pS)), (opR, .inl (cI, 151, .inl pR)), (opG, .inl (cI, 151, .inl pG)), (opP, .inl (cI, 151, .inl pP)), (opQ, .inl (cI, 151, .inl pQ)), (okp, .inl (cI, 256, .inl kp)), (okS, .inl (cI, 4, .inl kS)), (okR, .inl (cI, 4, .inl kR)), (okP, .inl (cI, 4, .inl kP)), (okQ, .inl (cI, 4, .inl kQ)), (oli, .inl (cI, 1320, .inl li))]) ⟨hx, hb, hml, hown, hts⟩ (ct_M_goes l dC dI cI cL cR oM obd opa opS opR opG opP opQ okp okS okR okP okQ oli mth mpl msd mrt mps mqt mmd bd pa pS pR pG pP pQ kp kS kR kP kQ li a1 a2 a3 hy1) mm_278 mm_279 mm_280 mm_277 mm_211 hd_M_goes (by decide) qq_00 hP hD hK hS hA hT hN (q0 := 0) (ci := 5) rfl rfl [0, 1, 2, 3, 4, 5, 6, 7, 8, 9, 10, 11, 12, 13] [] [0, 1, 2, 3, 4, 5, 6, 7, 8, 9, 10, 11, 12, 13] rfl rfl rfl (by decide) rfl hl.1 rfl (Nat.le_of_ble_eq_true rfl) dd_M_isMove_4 (fun H locs hP hD hS => ?_)
  refine W.eq (g2 := F0 m 7 ls [.int r1]) rfl ?_
  refine lv_if_ne (tgt := 12) hx hb dd_M_isMove_7 (by decide) (fun hc => ?_) (fun hc => ?_)
  · replace hf := qq_f hc hf
    refine lv_aload_n hx hb dd_M_isMove_12 rfl (lv_at hl 0 rfl) ?_
    refine lv_iconst (v := 3) hx hb dd_M_isMove_13 (by decide) ?_
    obtain ⟨⟨kp_2, kS_3, kR_4, kP_5, kQ_6⟩, hy6, hf⟩ := qq_bd hf
    dsimp only at hf
    refine qq_V (As := [.int 3]) (rest := []) (wr := []) (wf := [(oM, .inr (5, [.int mth, .int mpl, .ref obd, .int msd, .int mrt, .int mps, .int mqt, .int mmd, .ref opa, .ref opS, .ref opR, .ref opG, .ref opP, .ref opQ, .ref okp, .ref okS, .ref okR, .ref okP, .ref okQ, .ref oli])), (obd, .inl (cI, 64, .inl bd)), (opa, .inl (cI, 9664, .inl pa)), (opS, .inl (cI, 151, .inl pS)), (opR, .inl (cI, 151, .inl pR)), (opG, .inl (cI, 151, .inl pG)), (opP, .inl (cI, 151, .inl pP)), (opQ, .inl (cI, 151, .inl pQ)), (okp, .inl (cI, 256, .inl kp_2)), (okS, .inl (cI, 4, .inl kS_3)), (okR, .inl (cI, 4, .inl kR_4)), (okP, .inl (cI, 4, .inl kP_5)), (okQ, .inl (cI, 4, .inl kQ_6)), (oli, .inl (cI, 1320, .inl li))]) ⟨hx, hb, hml, hown, hts⟩ (ct_M_keep l dC dI cI cL cR oM obd opa opS opR opG opP opQ okp okS okR okP okQ oli mth mpl msd mrt mps mqt mmd bd pa pS pR pG pP pQ kp kS kR kP kQ li 3 hy6) mm_282 mm_283 mm_284 mm_281 mm_211 hd_M_keep (by decide) qq_00 hP hD hK hS hA hT hN (q0 := 0) (ci := 5) rfl rfl [0, 1, 2, 3, 4, 5, 6, 7, 8, 9, 10, 11, 12, 13] [] [0, 1, 2, 3, 4, 5, 6, 7, 8, 9, 10, 11, 12, 13] rfl rfl rfl (by decide) rfl hl.1 rfl (Nat.le_of_ble_eq_true rfl) dd_M_isMove_14 (fun H locs hP hD hS => ?_)
    refine W.eq (g2 := F0 m 17 ls []) rfl ?_
    refine lv_aload_n hx hb dd_M_isMove_17 rfl (lv_at hl 0 rfl) ?_
    refine lv_iload_n hx hb dd_M_isMove_18 rfl (lv_at hl 1 rfl) ?_
    refine lv_iload_n hx hb dd_M_isMove_19 rfl (lv_at hl 2 rfl) ?_
    refine lv_iload_n hx hb dd_M_isMove_20 rfl (lv_at hl 3 rfl) ?_
    obtain ⟨⟨msd_7, mrt_8, mps_9, mqt_10, bd_11⟩, hy11, hf⟩ := qq_bd hf
    dsimp only at hf
    refine qq_V (As := [.int a1, .int a2, .int a3]) (rest := []) (wr := []) (wf := [(oM, .inr (5, [.int mth, .int mpl, .ref obd, .int msd_7, .int mrt_8, .int mps_9, .int mqt_10, .int mmd, .ref opa, .ref opS, .ref opR, .ref opG, .ref opP, .ref opQ, .ref okp, .ref okS, .ref okR, .ref okP, .ref okQ, .ref oli])), (obd, .inl (cI, 64, .inl bd_11)), (opa, .inl (cI, 9664, .inl pa)), (opS, .inl (cI, 151, .inl pS)), (opR, .inl (cI, 151, .inl pR)), (opG, .inl (cI, 151, .inl pG)), (opP, .inl (cI, 151, .inl pP)), (opQ, .inl (cI, 151, .inl pQ)), (okp, .inl (cI, 256, .inl kp_2)), (okS, .inl (cI, 4, .inl kS_3)), (okR, .inl (cI, 4, .inl kR_4)), (okP, .inl (cI, 4, .inl kP_5)), (okQ, .inl (cI, 4, .inl kQ_6)), (oli, .inl (cI, 1320, .inl li))]) ⟨hx, hb, hml, hown, hts⟩ (ct_M_go l dC dI cI cL cR oM obd opa opS opR opG opP opQ okp okS okR okP okQ oli mth mpl msd mrt mps mqt mmd bd pa pS pR pG pP pQ kp_2 kS_3 kR_4 kP_5 kQ_6 li a1 a2 a3 hy11) mm_286 mm_287 mm_288 mm_285 mm_211 hd_M_go (by decide) qq_00 hP hD hK hS hA hT hN (q0 := 0) (ci := 5) rfl rfl [0, 1, 2, 3, 4, 5, 6, 7, 8, 9, 10, 11, 12, 13] [] [0, 1, 2, 3, 4, 5, 6, 7, 8, 9, 10, 11, 12, 13] rfl rfl rfl (by decide) rfl hl.1 rfl (Nat.le_of_ble_eq_true rfl) dd_M_isMove_21 (fun H locs hP hD hS => ?_)
    refine W.eq (g2 := F0 m 24 ls []) rfl ?_
    refine lv_aload_n hx hb dd_M_isMove_24 rfl (lv_at hl 0 rfl) ?_
    refine lv_iconst (v := 1) hx hb dd_M_isMove_25 (by decide) ?_
    refine lv_aload_n hx hb dd_M_isMove_26 rfl (lv_at hl 0 rfl) ?_
    refine va_get (D := (dC, dI)) (ci := 5) (v := .int msd_7) (C := RR_M) (T := FF_M) (N := 20) hx hb hts uu_M hown hK hP 0 rfl rfl 3 (by decide) (hts _ mm_228) (fun _ h9 => h9) rfl dd_M_isMove_27 ?_
    refine lv_isub hx hb dd_M_isMove_30 ?_
    obtain ⟨r12, hy12, hf⟩ := qq_bd hf
    refine qq_V (As := [.int (1 - msd_7)]) (rest := []) (wr := []) (wf := [(oM, .inr (5, [.int mth, .int mpl, .ref obd, .int msd_7, .int mrt_8, .int mps_9, .int mqt_10, .int mmd, .ref opa, .ref opS, .ref opR, .ref opG, .ref opP, .ref opQ, .ref okp, .ref okS, .ref okR, .ref okP, .ref okQ, .ref oli])), (obd, .inl (cI, 64, .inl bd_11)), (opa, .inl (cI, 9664, .inl pa)), (opS, .inl (cI, 151, .inl pS)), (opR, .inl (cI, 151, .inl pR)), (opG, .inl (cI, 151, .inl pG)), (opP, .inl (cI, 151, .inl pP)), (opQ, .inl (cI, 151, .inl pQ)), (okp, .inl (cI, 256, .inl kp_2)), (okS, .inl (cI, 4, .inl kS_3)), (okR, .inl (cI, 4, .inl kR_4)), (okP, .inl (cI, 4, .inl kP_5)), (okQ, .inl (cI, 4, .inl kQ_6)), (oli, .inl (cI, 1320, .inl li))]) ⟨hx, hb, hml, hown, hts⟩ (ct_M_isChecked l dC dI cI cL cR oM obd opa opS opR opG opP opQ okp okS okR okP okQ oli mth mpl msd_7 mrt_8 mps_9 mqt_10 mmd bd_11 pa pS pR pG pP pQ kp_2 kS_3 kR_4 kP_5 kQ_6 li (1 - msd_7) hy12) mm_252 mm_253 mm_254 mm_251 mm_211 hd_M_isChecked (by decide) qq_00 hP hD hK hS hA hT hN (q0 := 0) (ci := 5) rfl rfl [0, 1, 2, 3, 4, 5, 6, 7, 8, 9, 10, 11, 12, 13] [] [0, 1, 2, 3, 4, 5, 6, 7, 8, 9, 10, 11, 12, 13] rfl rfl rfl (by decide) rfl hl.1 rfl (Nat.le_of_ble_eq_true rfl) dd_M_isMove_31 (fun H locs hP hD hS => ?_)
    refine W.eq (g2 := F0 m 34 ls [.int r12]) rfl ?_
    refine lv_if_ne (tgt := 41) hx hb dd_M_isMove_34 (by decide) (fun hc => ?_) (fun hc => ?_)
    · replace hf := qq_f hc hf
      refine lv_iconst (v := 0) hx hb dd_M_isMove_41 (by decide) ?_
      exact hJ42 msd_7 mrt_8 mps_9 mqt_10 bd_11 kp_2 kS_3 kR_4 kP_5 kQ_6 0 _ _ _ (lv_sub hl [0] rfl) hP hD hS hf
    · replace hf := qq_t hc hf
      refine lv_iconst (v := 1) hx hb dd_M_isMove_37 (by decide) ?_
      refine lv_goto (tgt := 42) hx hb dd_M_isMove_38 (by decide) ?_
      exact hJ42 msd_7 mrt_8 mps_9 mqt_10 bd_11 kp_2 kS_3 kR_4 kP_5 kQ_6 1 _ _ _ (lv_sub hl [0] rfl) hP hD hS hf
  · replace hf := qq_t hc hf
    refine lv_iconst (v := 0) hx hb dd_M_isMove_10 (by decide) ?_
    cases hf
    exact qq_zret hx hb hr rfl hlocks hQ hP hD hK hS dd_M_isMove_11
theorem dd_M_collect_0 : decode bb_M_collect 0 = .ok (.iconst 0, 1) := by decide +kernel
theorem dd_M_collect_1 : decode bb_M_collect 1 = .ok (.istore_n 2, 1) := by decide +kernel
theorem dd_M_collect_2 : decode bb_M_collect 2 = .ok (.iconst 0, 1) := by decide +kernel
theorem dd_M_collect_3 : decode bb_M_collect 3 = .ok (.istore_n 3, 1) := by decide +kernel
theorem dd_M_collect_4 : decode bb_M_collect 4 = .ok (.iload_n 3, 1) := by decide +kernel
theorem dd_M_collect_5 : decode bb_M_collect 5 = .ok (.bipush 64, 2) := by decide +kernel
theorem dd_M_collect_7 : decode bb_M_collect 7 = .ok (.if_icmp .ge 149, 3) := by decide +kernel
theorem dd_M_collect_10 : decode bb_M_collect 10 = .ok (.iconst 0, 1) := by decide +kernel
theorem dd_M_collect_11 : decode bb_M_collect 11 = .ok (.istore 4, 2) := by decide +kernel
theorem dd_M_collect_13 : decode bb_M_collect 13 = .ok (.iload 4, 2) := by decide +kernel
theorem dd_M_collect_15 : decode bb_M_collect 15 = .ok (.bipush 64, 2) := by decide +kernel
theorem dd_M_collect_17 : decode bb_M_collect 17 = .ok (.if_icmp .ge 133, 3) := by decide +kernel
theorem dd_M_collect_20 : decode bb_M_collect 20 = .ok (.aload_n 0, 1) := by decide +kernel
theorem dd_M_collect_21 : decode bb_M_collect 21 = .ok (.getfield 7, 3) := by decide +kernel
theorem dd_M_collect_24 : decode bb_M_collect 24 = .ok (.iload_n 3, 1) := by decide +kernel
theorem dd_M_collect_25 : decode bb_M_collect 25 = .ok (.iaload, 1) := by decide +kernel
theorem dd_M_collect_26 : decode bb_M_collect 26 = .ok (.aload_n 0, 1) := by decide +kernel
theorem dd_M_collect_27 : decode bb_M_collect 27 = .ok (.getfield 95, 3) := by decide +kernel
theorem dd_M_collect_30 : decode bb_M_collect 30 = .ok (.invokestatic 83, 3) := by decide +kernel
theorem dd_M_collect_33 : decode bb_M_collect 33 = .ok (.ifCond .eq 117, 3) := by decide +kernel
theorem dd_M_collect_36 : decode bb_M_collect 36 = .ok (.aload_n 0, 1) := by decide +kernel
theorem dd_M_collect_37 : decode bb_M_collect 37 = .ok (.getfield 7, 3) := by decide +kernel
theorem dd_M_collect_40 : decode bb_M_collect 40 = .ok (.iload_n 3, 1) := by decide +kernel
theorem dd_M_collect_41 : decode bb_M_collect 41 = .ok (.iaload, 1) := by decide +kernel
theorem dd_M_collect_42 : decode bb_M_collect 42 = .ok (.invokestatic 73, 3) := by decide +kernel
theorem dd_M_collect_45 : decode bb_M_collect 45 = .ok (.iconst 1, 1) := by decide +kernel
theorem dd_M_collect_46 : decode bb_M_collect 46 = .ok (.if_icmp .ne 21, 3) := by decide +kernel
theorem dd_M_collect_49 : decode bb_M_collect 49 = .ok (.iload 4, 2) := by decide +kernel
theorem dd_M_collect_51 : decode bb_M_collect 51 = .ok (.bipush 8, 2) := by decide +kernel
theorem dd_M_collect_53 : decode bb_M_collect 53 = .ok (.if_icmp .lt 10, 3) := by decide +kernel
theorem dd_M_collect_56 : decode bb_M_collect 56 = .ok (.iload 4, 2) := by decide +kernel
theorem dd_M_collect_58 : decode bb_M_collect 58 = .ok (.bipush 55, 2) := by decide +kernel
theorem dd_M_collect_60 : decode bb_M_collect 60 = .ok (.if_icmp .le 7, 3) := by decide +kernel
theorem dd_M_collect_63 : decode bb_M_collect 63 = .ok (.iconst 1, 1) := by decide +kernel
theorem dd_M_collect_64 : decode bb_M_collect 64 = .ok (.goto 4, 3) := by decide +kernel
theorem dd_M_collect_67 : decode bb_M_collect 67 = .ok (.iconst 0, 1) := by decide +kernel
theorem dd_M_collect_68 : decode bb_M_collect 68 = .ok (.istore 5, 2) := by decide +kernel
theorem dd_M_collect_70 : decode bb_M_collect 70 = .ok (.iload 5, 2) := by decide +kernel
theorem dd_M_collect_72 : decode bb_M_collect 72 = .ok (.ifCond .eq 7, 3) := by decide +kernel
theorem dd_M_collect_75 : decode bb_M_collect 75 = .ok (.iconst 2, 1) := by decide +kernel
theorem dd_M_collect_76 : decode bb_M_collect 76 = .ok (.goto 4, 3) := by decide +kernel
theorem dd_M_collect_79 : decode bb_M_collect 79 = .ok (.iconst 0, 1) := by decide +kernel
theorem dd_M_collect_80 : decode bb_M_collect 80 = .ok (.istore 6, 2) := by decide +kernel
theorem dd_M_collect_82 : decode bb_M_collect 82 = .ok (.iload 6, 2) := by decide +kernel
theorem dd_M_collect_84 : decode bb_M_collect 84 = .ok (.iload 5, 2) := by decide +kernel
theorem dd_M_collect_86 : decode bb_M_collect 86 = .ok (.ifCond .eq 7, 3) := by decide +kernel
theorem dd_M_collect_89 : decode bb_M_collect 89 = .ok (.iconst 5, 1) := by decide +kernel
theorem dd_M_collect_90 : decode bb_M_collect 90 = .ok (.goto 4, 3) := by decide +kernel
theorem dd_M_collect_93 : decode bb_M_collect 93 = .ok (.iconst 0, 1) := by decide +kernel
theorem dd_M_collect_94 : decode bb_M_collect 94 = .ok (.if_icmp .gt 50, 3) := by decide +kernel
theorem dd_M_collect_97 : decode bb_M_collect 97 = .ok (.aload_n 0, 1) := by decide +kernel
theorem dd_M_collect_98 : decode bb_M_collect 98 = .ok (.iload_n 3, 1) := by decide +kernel
theorem dd_M_collect_99 : decode bb_M_collect 99 = .ok (.iload 4, 2) := by decide +kernel
theorem dd_M_collect_101 : decode bb_M_collect 101 = .ok (.iload 6, 2) := by decide +kernel
theorem dd_M_collect_103 : decode bb_M_collect 103 = .ok (.invokevirtual 135, 3) := by decide +kernel
theorem dd_M_collect_106 : decode bb_M_collect 106 = .ok (.ifCond .eq 32, 3) := by decide +kernel
theorem dd_M_collect_109 : decode bb_M_collect 109 = .ok (.aload_n 0, 1) := by decide +kernel
theorem dd_M_collect_110 : decode bb_M_collect 110 = .ok (.getfield 50, 3) := by decide +kernel
theorem dd_M_collect_113 : decode bb_M_collect 113 = .ok (.sipush 440, 3) := by decide +kernel
theorem dd_M_collect_116 : decode bb_M_collect 116 = .ok (.iload_n 1, 1) := by decide +kernel
theorem dd_M_collect_117 : decode bb_M_collect 117 = .ok (.imul, 1) := by decide +kernel
theorem dd_M_collect_118 : decode bb_M_collect 118 = .ok (.iload_n 2, 1) := by decide +kernel
theorem dd_M_collect_119 : decode bb_M_collect 119 = .ok (.iadd, 1) := by decide +kernel
theorem dd_M_collect_120 : decode bb_M_collect 120 = .ok (.iload_n 3, 1) := by decide +kernel
theorem dd_M_collect_121 : decode bb_M_collect 121 = .ok (.bipush 64, 2) := by decide +kernel
theorem dd_M_collect_123 : decode bb_M_collect 123 = .ok (.iload 4, 2) := by decide +kernel
theorem dd_M_collect_125 : decode bb_M_collect 125 = .ok (.imul, 1) := by decide +kernel
theorem dd_M_collect_126 : decode bb_M_collect 126 = .ok (.iadd, 1) := by decide +kernel
theorem dd_M_collect_127 : decode bb_M_collect 127 = .ok (.sipush 4096, 3) := by decide +kernel
theorem dd_M_collect_130 : decode bb_M_collect 130 = .ok (.iload 6, 2) := by decide +kernel
theorem dd_M_collect_132 : decode bb_M_collect 132 = .ok (.imul, 1) := by decide +kernel
theorem dd_M_collect_133 : decode bb_M_collect 133 = .ok (.iadd, 1) := by decide +kernel
theorem dd_M_collect_134 : decode bb_M_collect 134 = .ok (.iastore, 1) := by decide +kernel
theorem dd_M_collect_135 : decode bb_M_collect 135 = .ok (.iinc 2 1, 3) := by decide +kernel
theorem dd_M_collect_138 : decode bb_M_collect 138 = .ok (.iinc 6 1, 3) := by decide +kernel
theorem dd_M_collect_141 : decode bb_M_collect 141 = .ok (.goto (-59), 3) := by decide +kernel
theorem dd_M_collect_144 : decode bb_M_collect 144 = .ok (.iinc 4 1, 3) := by decide +kernel
theorem dd_M_collect_147 : decode bb_M_collect 147 = .ok (.goto (-134), 3) := by decide +kernel
theorem dd_M_collect_150 : decode bb_M_collect 150 = .ok (.iinc 3 1, 3) := by decide +kernel
theorem dd_M_collect_153 : decode bb_M_collect 153 = .ok (.goto (-149), 3) := by decide +kernel
theorem dd_M_collect_156 : decode bb_M_collect 156 = .ok (.iload_n 2, 1) := by decide +kernel
theorem dd_M_collect_157 : decode bb_M_collect 157 = .ok (.ireturn, 1) := by decide +kernel
abbrev ty_M_collect : Type := Int32 × Int32 × Int32 × Int32 × Int32 × (Nat → Int32) × (Nat → Int32) × (Nat → Int32) × (Nat → Int32) × (Nat → Int32) × (Nat → Int32) × (Nat → Int32)
noncomputable def bk_M_collect_150 (a1 : Int32) (k4 : Int32 → Int32 → Int32 → Int32 → (Nat → Int32) → (Nat → Int32) → (Nat → Int32) → (Nat → Int32) → (Nat → Int32) → (Nat → Int32) → (Nat → Int32) → Int32 → Int32 → Option ty_M_collect) (msd : Int32) (mrt : Int32) (mps : Int32) (mqt : Int32) (bd : Nat → Int32) (kp : Nat → Int32) (kS : Nat → Int32) (kR : Nat → Int32) (kP : Nat → Int32) (kQ : Nat → Int32) (li : Nat → Int32) (x2 : Int32) (x3 : Int32) : Option ty_M_collect := qq_let (x3 + 1) fun v1001 => k4 msd mrt mps mqt bd kp kS kR kP kQ li x2 v1001
noncomputable def bk_M_collect_138 (a1 : Int32) (k4 : Int32 → Int32 → Int32 → Int32 → (Nat → Int32) → (Nat → Int32) → (Nat → Int32) → (Nat → Int32) → (Nat → Int32) → (Nat → Int32) → (Nat → Int32) → Int32 → Int32 → Option ty_M_collect) (k13 : Int32 → Int32 → Int32 → Int32 → (Nat → Int32) → (Nat → Int32) → (Nat → Int32) → (Nat → Int32) → (Nat → Int32) → (Nat → Int32) → (Nat → Int32) → Int32 → Int32 → Int32 → Option ty_M_collect) (k82 : Int32 → Int32 → Int32 → Int32 → (Nat → Int32) → (Nat → Int32) → (Nat → Int32) → (Nat → Int32) → (Nat → Int32) → (Nat → Int32) → (Nat → Int32) → Int32 → Int32 → Int32 → Int32 → Int32 → Option ty_M_collect) (msd : Int32) (mrt : Int32) (mps : Int32) (mqt : Int32) (bd : Nat → Int32) (kp : Nat → Int32) (kS : Nat → Int32) (kR : Nat → Int32) (kP : Nat → Int32) (kQ : Nat → Int32) (li : Nat → Int32) (x2 : Int32) (x3 : Int32) (x4 : Int32) (x5 : Int32) (x6 : Int32) : Option ty_M_collect := qq_let (x6 + 1) fun v2001 => k82 msd mrt mps mqt bd kp kS kR kP kQ li x2 x3 x4 x5 v2001
noncomputable def bk_M_collect_94 (a1 : Int32) (k4 : Int32 → Int32 → Int32 → Int32 → (Nat → Int32) → (Nat → Int32) → (Nat → Int32) → (Nat → Int32) → (Nat → Int32) → (Nat → Int32) → (Nat → Int32) → Int32 → Int32 → Option ty_M_collect) (k13 : Int32 → Int32 → Int32 → Int32 → (Nat → Int32) → (Nat → Int32) → (Nat → Int32) → (Nat → Int32) → (Nat → Int32) → (Nat → Int32) → (Nat → Int32) → Int32 → Int32 → Int32 → Option ty_M_collect) (k82 : Int32 → Int32 → Int32 → Int32 → (Nat → Int32) → (Nat → Int32) → (Nat → Int32) → (Nat → Int32) → (Nat → Int32) → (Nat → Int32) → (Nat → Int32) → Int32 → Int32 → Int32 → Int32 → Int32 → Option ty_M_collect) (msd : Int32) (mrt : Int32) (mps : Int32) (mqt : Int32) (bd : Nat → Int32) (kp : Nat → Int32) (kS : Nat → Int32) (kR : Nat → Int32) (kP : Nat → Int32) (kQ : Nat → Int32) (li : Nat → Int32) (x2 : Int32) (x3 : Int32) (x4 : Int32) (x5 : Int32) (x6 : Int32) (s0 : Int32) (s1 : Int32) : Option ty_M_collect := if s1 < s0 then (qq_let (x4 + 1) fun v3001 => k13 msd mrt mps mqt bd kp kS kR kP kQ li x2 x3 v3001) else ((fn_M_isMove msd mrt mps mqt bd kp kS kR kP kQ x3 x4 x6).bind fun (r3002, msd_3003, mrt_3004, mps_3005, mqt_3006, bd_3007, kp_3008, kS_3009, kR_3010, kP_3011, kQ_3012) => if r3002 = 0 then (bk_M_collect_138 a1 k4 k13 k82 msd_3003 mrt_3004 mps_3005 mqt_3006 bd_3007 kp_3008 kS_3009 kR_3010 kP_3011 kQ_3012 li x2 x3 x4 x5 x6) else (qq_ck (qq_in ((440 * a1) + x2) 1320) <| qq_let (upd li ((440 * a1) + x2).toNatClampNeg ((x3 + (64 * x4)) + (4096 * x6))) fun li_3014 => qq_let (x2 + 1) fun v3015 => bk_M_collect_138 a1 k4 k13 k82 msd_3003 mrt_3004 mps_3005 mqt_3006 bd_3007 kp_3008 kS_3009 kR_3010 kP_3011 kQ_3012 li_3014 v3015 x3 x4 x5 x6))
noncomputable def lo_M_collect_82 (a1 : Int32) (k4 : Int32 → Int32 → Int32 → Int32 → (Nat → Int32) → (Nat → Int32) → (Nat → Int32) → (Nat → Int32) → (Nat → Int32) → (Nat → Int32) → (Nat → Int32) → Int32 → Int32 → Option ty_M_collect) (k13 : Int32 → Int32 → Int32 → Int32 → (Nat → Int32) → (Nat → Int32) → (Nat → Int32) → (Nat → Int32) → (Nat → Int32) → (Nat → Int32) → (Nat → Int32) → Int32 → Int32 → Int32 → Option ty_M_collect) : Nat → Int32 → Int32 → Int32 → Int32 → (Nat → Int32) → (Nat → Int32) → (Nat → Int32) → (Nat → Int32) → (Nat → Int32) → (Nat → Int32) → (Nat → Int32) → Int32 → Int32 → Int32 → Int32 → Int32 → Option ty_M_collect
  | 0, _, _, _, _, _, _, _, _, _, _, _, _, _, _, _, _ => none
  | n + 1, msd, mrt, mps, mqt, bd, kp, kS, kR, kP, kQ, li, x2, x3, x4, x5, x6 => if x5 = 0 then (bk_M_collect_94 a1 k4 k13 (lo_M_collect_82 a1 k4 k13 n) msd mrt mps mqt bd kp kS kR kP kQ li x2 x3 x4 x5 x6 x6 0) else (bk_M_collect_94 a1 k4 k13 (lo_M_collect_82 a1 k4 k13 n) msd mrt mps mqt bd kp kS kR kP kQ li x2 x3 x4 x5 x6 x6 5)
theorem lo_M_collect_82_z (a1 : Int32) (k4 : Int32 → Int32 → Int32 → Int32 → (Nat → Int32) → (Nat → Int32) → (Nat → Int32) → (Nat → Int32) → (Nat → Int32) → (Nat → Int32) → (Nat → Int32) → Int32 → Int32 → Option ty_M_collect) (k13 : Int32 → Int32 → Int32 → Int32 → (Nat → Int32) → (Nat → Int32) → (Nat → Int32) → (Nat → Int32) → (Nat → Int32) → (Nat → Int32) → (Nat → Int32) → Int32 → Int32 → Int32 → Option ty_M_collect) (msd : Int32) (mrt : Int32) (mps : Int32) (mqt : Int32) (bd : Nat → Int32) (kp : Nat → Int32) (kS : Nat → Int32) (kR : Nat → Int32) (kP : Nat → Int32) (kQ : Nat → Int32) (li : Nat → Int32) (x2 : Int32) (x3 : Int32) (x4 : Int32) (x5 : Int32) (x6 : Int32) : lo_M_collect_82 a1 k4 k13 0 msd mrt mps mqt bd kp kS kR kP kQ li x2 x3 x4 x5 x6 = none := rfl
theorem lo_M_collect_82_s (a1 : Int32) (k4 : Int32 → Int32 → Int32 → Int32 → (Nat → Int32) → (Nat → Int32) → (Nat → Int32) → (Nat → Int32) → (Nat → Int32) → (Nat → Int32) → (Nat → Int32) → Int32 → Int32 → Option ty_M_collect) (k13 : Int32 → Int32 → Int32 → Int32 → (Nat → Int32) → (Nat → Int32) → (Nat → Int32) → (Nat → Int32) → (Nat → Int32) → (Nat → Int32) → (Nat → Int32) → Int32 → Int32 → Int32 → Option ty_M_collect) (msd : Int32) (mrt : Int32) (mps : Int32) (mqt : Int32) (bd : Nat → Int32) (kp : Nat → Int32) (kS : Nat → Int32) (kR : Nat → Int32) (kP : Nat → Int32) (kQ : Nat → Int32) (li : Nat → Int32) (x2 : Int32) (x3 : Int32) (x4 : Int32) (x5 : Int32) (x6 : Int32) (n : Nat) : lo_M_collect_82 a1 k4 k13 (n + 1) msd mrt mps mqt bd kp kS kR kP kQ li x2 x3 x4 x5 x6 = (if x5 = 0 then (bk_M_collect_94 a1 k4 k13 (lo_M_collect_82 a1 k4 k13 n) msd mrt mps mqt bd kp kS kR kP kQ li x2 x3 x4 x5 x6 x6 0) else (bk_M_collect_94 a1 k4 k13 (lo_M_collect_82 a1 k4 k13 n) msd mrt mps mqt bd kp kS kR kP kQ li x2 x3 x4 x5 x6 x6 5)) := rfl
noncomputable def bk_M_collect_80 (a1 : Int32) (k4 : Int32 → Int32 → Int32 → Int32 → (Nat → Int32) → (Nat → Int32) → (Nat → Int32) → (Nat → Int32) → (Nat → Int32) → (Nat → Int32) → (Nat → Int32) → Int32 → Int32 → Option ty_M_collect) (k13 : Int32 → Int32 → Int32 → Int32 → (Nat → Int32) → (Nat → Int32) → (Nat → Int32) → (Nat → Int32) → (Nat → Int32) → (Nat → Int32) → (Nat → Int32) → Int32 → Int32 → Int32 → Option ty_M_collect) (msd : Int32) (mrt : Int32) (mps : Int32) (mqt : Int32) (bd : Nat → Int32) (kp : Nat → Int32) (kS : Nat → Int32) (kR : Nat → Int32) (kP : Nat → Int32) (kQ : Nat → Int32) (li : Nat → Int32) (x2 : Int32) (x3 : Int32) (x4 : Int32) (x5 : Int32) (s0 : Int32) : Option ty_M_collect := lo_M_collect_82 a1 k4 k13 qq_FU msd mrt mps mqt bd kp kS kR kP kQ li x2 x3 x4 x5 s0
noncomputable def bk_M_collect_68 (a1 : Int32) (k4 : Int32 → Int32 → Int32 → Int32 → (Nat → Int32) → (Nat → Int32) → (Nat → Int32) → (Nat → Int32) → (Nat → Int32) → (Nat → Int32) → (Nat → Int32) → Int32 → Int32 → Option ty_M_collect) (k13 : Int32 → Int32 → Int32 → Int32 → (Nat → Int32) → (Nat → Int32) → (Nat → Int32) → (Nat → Int32) → (Nat → Int32) → (Nat → Int32) → (Nat → Int32) → Int32 → Int32 → Int32 → Option ty_M_collect) (msd : Int32) (mrt : Int32) (mps : Int32) (mqt : Int32) (bd : Nat → Int32) (kp : Nat → Int32) (kS : Nat → Int32) (kR : Nat → Int32) (kP : Nat → Int32) (kQ : Nat → Int32) (li : Nat → Int32) (x2 : Int32) (x3 : Int32) (x4 : Int32) (s0 : Int32) : Option ty_M_collect := if s0 = 0 then (bk_M_collect_80 a1 k4 k13 msd mrt mps mqt bd kp kS kR kP kQ li x2 x3 x4 s0 0) else (bk_M_collect_80 a1 k4 k13 msd mrt mps mqt bd kp kS kR kP kQ li x2 x3 x4 s0 2)
noncomputable def bk_M_collect_67 (a1 : Int32) (k4 : Int32 → Int32 → Int32 → Int32 → (Nat → Int32) → (Nat → Int32) → (Nat → Int32) → (Nat → Int32) → (Nat → Int32) → (Nat → Int32) → (Nat → Int32) → Int32 → Int32 → Option ty_M_collect) (k13 : Int32 → Int32 → Int32 → Int32 → (Nat → Int32) → (Nat → Int32) → (Nat → Int32) → (Nat → Int32) → (Nat → Int32) → (Nat → Int32) → (Nat → Int32) → Int32 → Int32 → Int32 → Option ty_M_collect) (msd : Int32) (mrt : Int32) (mps : Int32) (mqt : Int32) (bd : Nat → Int32) (kp : Nat → Int32) (kS : Nat → Int32) (kR : Nat → Int32) (kP : Nat → Int32) (kQ : Nat → Int32) (li : Nat → Int32) (x2 : Int32) (x3 : Int32) (x4 : Int32) : Option ty_M_collect := bk_M_collect_68 a1 k4 k13 msd mrt mps mqt bd kp kS kR kP kQ li x2 x3 x4 0
noncomputable def bk_M_collect_63 (a1 : Int32) (k4 : Int32 → Int32 → Int32 → Int32 → (Nat → Int32) → (Nat → Int32) → (Nat → Int32) → (Nat → Int32) → (Nat → Int32) → (Nat → Int32) → (Nat → Int32) → Int32 → Int32 → Option ty_M_collect) (k13 : Int32 → Int32 → Int32 → Int32 → (Nat → Int32) → (Nat → Int32) → (Nat → Int32) → (Nat → Int32) → (Nat → Int32) → (Nat → Int32) → (Nat → Int32) → Int32 → Int32 → Int32 → Option ty_M_collect) (msd : Int32) (mrt : Int32) (mps : Int32) (mqt : Int32) (bd : Nat → Int32) (kp : Nat → Int32) (kS : Nat → Int32) (kR : Nat → Int32) (kP : Nat → Int32) (kQ : Nat → Int32) (li : Nat → Int32) (x2 : Int32) (x3 : Int32) (x4 : Int32) : Option ty_M_collect := bk_M_collect_68 a1 k4 k13 msd mrt mps mqt bd kp kS kR kP kQ li x2 x3 x4 1
noncomputable def lo_M_collect_13 (a1 : Int32) (k4 : Int32 → Int32 → Int32 → Int32 → (Nat → Int32) → (Nat → Int32) → (Nat → Int32) → (Nat → Int32) → (Nat → Int32) → (Nat → Int32) → (Nat → Int32) → Int32 → Int32 → Option ty_M_collect) : Nat → Int32 → Int32 → Int32 → Int32 → (Nat → Int32) → (Nat → Int32) → (Nat → Int32) → (Nat → Int32) → (Nat → Int32) → (Nat → Int32) → (Nat → Int32) → Int32 → Int32 → Int32 → Option ty_M_collect
  | 0, _, _, _, _, _, _, _, _, _, _, _, _, _, _ => none
  | n + 1, msd, mrt, mps, mqt, bd, kp, kS, kR, kP, kQ, li, x2, x3, x4 => if 64 ≤ x4 then (bk_M_collect_150 a1 k4 msd mrt mps mqt bd kp kS kR kP kQ li x2 x3) else (qq_ck (qq_in x3 64) <| (fn_M_isOf (bd x3.toNatClampNeg) msd).bind fun r9002 => if r9002 = 0 then (bk_M_collect_150 a1 k4 msd mrt mps mqt bd kp kS kR kP kQ li x2 x3) else (qq_ck (qq_in x3 64) <| (fn_M_kindOf (bd x3.toNatClampNeg)).bind fun r9004 => if r9004 = 1 then (if x4 < 8 then (bk_M_collect_63 a1 k4 (lo_M_collect_13 a1 k4 n) msd mrt mps mqt bd kp kS kR kP kQ li x2 x3 x4) else (if x4 ≤ 55 then (bk_M_collect_67 a1 k4 (lo_M_collect_13 a1 k4 n) msd mrt mps mqt bd kp kS kR kP kQ li x2 x3 x4) else (bk_M_collect_63 a1 k4 (lo_M_collect_13 a1 k4 n) msd mrt mps mqt bd kp kS kR kP kQ li x2 x3 x4))) else (bk_M_collect_67 a1 k4 (lo_M_collect_13 a1 k4 n) msd mrt mps mqt bd kp kS kR kP kQ li x2 x3 x4)))
theorem lo_M_collect_13_z (a1 : Int32) (k4 : Int32 → Int32 → Int32 → Int32 → (Nat → Int32) → (Nat → Int32) → (Nat → Int32) → (Nat → Int32) → (Nat → Int32) → (Nat → Int32) → (Nat → Int32) → Int32 → Int32 → Option ty_M_collect) (msd : Int32) (mrt : Int32) (mps : Int32) (mqt : Int32) (bd : Nat → Int32) (kp : Nat → Int32) (kS : Nat → Int32) (kR : Nat → Int32) (kP : Nat → Int32) (kQ : Nat → Int32) (li : Nat → Int32) (x2 : Int32) (x3 : Int32) (x4 : Int32) : lo_M_collect_13 a1 k4 0 msd mrt mps mqt bd kp kS kR kP kQ li x2 x3 x4 = none := rfl
theorem lo_M_collect_13_s (a1 : Int32) (k4 : Int32 → Int32 → Int32 → Int32 → (Nat → Int32) → (Nat → Int32) → (Nat → Int32) → (Nat → Int32) → (Nat → Int32) → (Nat → Int32) → (Nat → Int32) → Int32 → Int32 → Option ty_M_collect) (msd : Int32) (mrt : Int32) (mps : Int32) (mqt : Int32) (bd : Nat → Int32) (kp : Nat → Int32) (kS : Nat → Int32) (kR : Nat → Int32) (kP : Nat → Int32) (kQ : Nat → Int32) (li : Nat → Int32) (x2 : Int32) (x3 : Int32) (x4 : Int32) (n : Nat) : lo_M_collect_13 a1 k4 (n + 1) msd mrt mps mqt bd kp kS kR kP kQ li x2 x3 x4 = (if 64 ≤ x4 then (bk_M_collect_150 a1 k4 msd mrt mps mqt bd kp kS kR kP kQ li x2 x3) else (qq_ck (qq_in x3 64) <| (fn_M_isOf (bd x3.toNatClampNeg) msd).bind fun r9002 => if r9002 = 0 then (bk_M_collect_150 a1 k4 msd mrt mps mqt bd kp kS kR kP kQ li x2 x3) else (qq_ck (qq_in x3 64) <| (fn_M_kindOf (bd x3.toNatClampNeg)).bind fun r9004 => if r9004 = 1 then (if x4 < 8 then (bk_M_collect_63 a1 k4 (lo_M_collect_13 a1 k4 n) msd mrt mps mqt bd kp kS kR kP kQ li x2 x3 x4) else (if x4 ≤ 55 then (bk_M_collect_67 a1 k4 (lo_M_collect_13 a1 k4 n) msd mrt mps mqt bd kp kS kR kP kQ li x2 x3 x4) else (bk_M_collect_63 a1 k4 (lo_M_collect_13 a1 k4 n) msd mrt mps mqt bd kp kS kR kP kQ li x2 x3 x4))) else (bk_M_collect_67 a1 k4 (lo_M_collect_13 a1 k4 n) msd mrt mps mqt bd kp kS kR kP kQ li x2 x3 x4)))) := rfl
noncomputable def lo_M_collect_4 (a1 : Int32) : Nat → Int32 → Int32 → Int32 → Int32 → (Nat → Int32) → (Nat → Int32) → (Nat → Int32) → (Nat → Int32) → (Nat → Int32) → (Nat → Int32) → (Nat → Int32) → Int32 → Int32 → Option ty_M_collect
  | 0, _, _, _, _, _, _, _, _, _, _, _, _, _ => none
  | n + 1, msd, mrt, mps, mqt, bd, kp, kS, kR, kP, kQ, li, x2, x3 => if 64 ≤ x3 then (some (x2, msd, mrt, mps, mqt, bd, kp, kS, kR, kP, kQ, li)) else (lo_M_collect_13 a1 (lo_M_collect_4 a1 n) qq_FU msd mrt mps mqt bd kp kS kR kP kQ li x2 x3 0)
theorem lo_M_collect_4_z (a1 : Int32) (msd : Int32) (mrt : Int32) (mps : Int32) (mqt : Int32) (bd : Nat → Int32) (kp : Nat → Int32) (kS : Nat → Int32) (kR : Nat → Int32) (kP : Nat → Int32) (kQ : Nat → Int32) (li : Nat → Int32) (x2 : Int32) (x3 : Int32) : lo_M_collect_4 a1 0 msd mrt mps mqt bd kp kS kR kP kQ li x2 x3 = none := rfl
theorem lo_M_collect_4_s (a1 : Int32) (msd : Int32) (mrt : Int32) (mps : Int32) (mqt : Int32) (bd : Nat → Int32) (kp : Nat → Int32) (kS : Nat → Int32) (kR : Nat → Int32) (kP : Nat → Int32) (kQ : Nat → Int32) (li : Nat → Int32) (x2 : Int32) (x3 : Int32) (n : Nat) : lo_M_collect_4 a1 (n + 1) msd mrt mps mqt bd kp kS kR kP kQ li x2 x3 = (if 64 ≤ x3 then (some (x2, msd, mrt, mps, mqt, bd, kp, kS, kR, kP, kQ, li)) else (lo_M_collect_13 a1 (lo_M_collect_4 a1 n) qq_FU msd mrt mps mqt bd kp kS kR kP kQ li x2 x3 0)) := rfl
noncomputable def fn_M_collect (msd : Int32) (mrt : Int32) (mps : Int32) (mqt : Int32) (bd : Nat → Int32) (kp : Nat → Int32) (kS : Nat → Int32) (kR : Nat → Int32) (kP : Nat → Int32) (kQ : Nat → Int32) (li : Nat → Int32) (a1 : Int32) : Option ty_M_collect := lo_M_collect_4 a1 qq_FU msd mrt mps mqt bd kp kS kR kP kQ li 0 0
abbrev rm_M_collect : Room := { frames := 8, cells := 0, slots := 0, locals := 188 }
set_option maxHeartbeats 4000000 in
set_option maxRecDepth 100000 in
theorem ct_M_collect (l : Launch) (dC : Nat → ClassId) (dI : Nat → Nat → Nat) (cI cL cR : ClassId) (oM obd opa opS opR opG opP opQ okp okS okR okP okQ oli : Nat) (mth : Int32) (mpl : Int32) (msd : Int32) (mrt : Int32) (mps : Int32) (mqt : Int32) (mmd : Int32) (bd : Nat → Int32) (pa : Nat → Int32) (pS : Nat → Int32) (pR : Nat → Int32) (pG : Nat → Int32) (pP : Nat → Int32) (pQ : Nat → Int32) (kp : Nat → Int32) (kS : Nat → Int32) (kR : Nat → Int32) (kP : Nat → Int32) (kQ : Nat → Int32) (li : Nat → Int32) (a1 : Int32) {rr : Int32} {msd' : Int32} {mrt' : Int32} {mps' : Int32} {mqt' : Int32} {bd' : Nat → Int32} {kp' : Nat → Int32} {kS' : Nat → Int32} {kR' : Nat → Int32} {kP' : Nat → Int32} {kQ' : Nat → Int32} {li' : Nat → Int32} (hf : fn_M_collect msd mrt mps mqt bd kp kS kR kP kQ li a1 = some (rr, msd', mrt', mps', mqt', bd', kp', kS', kR', kP', kQ', li')) : qq_det l yy_M_collect (ww_of yy_M_collect bb_M_collect 7 (some .int)) rm_M_collect (dC, dI) (qq_ty cI cL cR) [.ref oM, .int a1] [(oM, .inr (5, [.int mth, .int mpl, .ref obd, .int msd, .int mrt, .int mps, .int mqt, .int mmd, .ref opa, .ref opS, .ref opR, .ref opG, .ref opP, .ref opQ, .ref okp, .ref okS, .ref okR, .ref okP, .ref okQ, .ref oli])), (obd, .inl (cI, 64, .inl bd)), (opa, .inl (cI, 9664, .inl pa)), (opS, .inl (cI, 151, .inl pS)), (opR, .inl (cI, 151, .inl pR)), (opG, .inl (cI, 151, .inl pG)), (opP, .inl (cI, 151, .inl pP)), (opQ, .inl (cI, 151, .inl pQ)), (okp, .inl (cI, 256, .inl kp)), (okS, .inl (cI, 4, .inl kS)), (okR, .inl (cI, 4, .inl kR)), (okP, .inl (cI, 4, .inl kP)), (okQ, .inl (cI, 4, .inl kQ)), (oli, .inl (cI, 1320, .inl li))] (some (.int rr)) [(oM, .inr (5, [.int mth, .int mpl, .ref obd, .int msd', .int mrt', .int mps', .int mqt', .int mmd, .ref opa, .ref opS, .ref opR, .ref opG, .ref opP, .ref opQ, .ref okp, .ref okS, .ref okR, .ref okP, .ref okQ, .ref oli])), (obd, .inl (cI, 64, .inl bd')), (opa, .inl (cI, 9664, .inl pa)), (opS, .inl (cI, 151, .inl pS)), (opR, .inl (cI, 151, .inl pR)), (opG, .inl (cI, 151, .inl pG)), (opP, .inl (cI, 151, .inl pP)), (opQ, .inl (cI, 151, .inl pQ)), (okp, .inl (cI, 256, .inl kp')), (okS, .inl (cI, 4, .inl kS')), (okR, .inl (cI, 4, .inl kR')), (okP, .inl (cI, 4, .inl kP')), (okQ, .inl (cI, 4, .inl kQ')), (oli, .inl (cI, 1320, .inl li'))] := by
  refine qq_of (own := RR_M) (by decide) rfl (Nat.le_of_ble_eq_true rfl) ?_
  intro p e s m below meth c A Q ls hx hb hml hr hlocks hown hts hK hA hT hN hP hD hS hl hQ
  have hl : lv_has ls 7 [(0, .ref oM), (1, .int a1)] := hl
  have hL4 : ∀ (n4 : Nat) (msd : Int32) (mrt : Int32) (mps : Int32) (mqt : Int32) (bd : Nat → Int32) (kp : Nat → Int32) (kS : Nat → Int32) (kR : Nat → Int32) (kP : Nat → Int32) (kQ : Nat → Int32) (li : Nat → Int32) (x2 : Int32) (x3 : Int32) (H : Heap) (locs : List Loc) (ls : Array Slot), lv_has ls 7 [(0, .ref oM), (1, .int a1), (2, .int x2), (3, .int x3)] → va_P (dC, dI) classes [(oM, .inr (5, [.int mth, .int mpl, .ref obd, .int msd, .int mrt, .int mps, .int mqt, .int mmd, .ref opa, .ref opS, .ref opR, .ref opG, .ref opP, .ref opQ, .ref okp, .ref okS, .ref okR, .ref okP, .ref okQ, .ref oli])), (obd, .inl (cI, 64, .inl bd)), (opa, .inl (cI, 9664, .inl pa)), (opS, .inl (cI, 151, .inl pS)), (opR, .inl (cI, 151, .inl pR)), (opG, .inl (cI, 151, .inl pG)), (opP, .inl (cI, 151, .inl pP)), (opQ, .inl (cI, 151, .inl pQ)), (okp, .inl (cI, 256, .inl kp)), (okS, .inl (cI, 4, .inl kS)), (okR, .inl (cI, 4, .inl kR)), (okP, .inl (cI, 4, .inl kP)), (okQ, .inl (cI, 4, .inl kQ)), (oli, .inl (cI, 1320, .inl li))] H → va_D A [(oM, .inr (5, [.int mth, .int mpl, .ref obd, .int msd, .int mrt, .int mps, .int mqt, .int mmd, .ref opa, .ref opS, .ref opR, .ref opG, .ref opP, .ref opQ, .ref okp, .ref okS, .ref okR, .ref okP, .ref okQ, .ref oli])), (obd, .inl (cI, 64, .inl bd)), (opa, .inl (cI, 9664, .inl pa)), (opS, .inl (cI, 151, .inl pS)), (opR, .inl (cI, 151, .inl pR)), (opG, .inl (cI, 151, .inl pG)), (opP, .inl (cI, 151, .inl pP)), (opQ, .inl (cI, 151, .inl pQ)), (okp, .inl (cI, 256, .inl kp)), (okS, .inl (cI, 4, .inl kS)), (okR, .inl (cI, 4, .inl kR)), (okP, .inl (cI, 4, .inl kP)), (okQ, .inl (cI, 4, .inl kQ)), (oli, .inl (cI, 1320, .inl li))] → va_S A s.heap H locs → lo_M_collect_4 a1 n4 msd mrt mps mqt bd kp kS kR kP kQ li x2 x3 = some (rr, msd', mrt', mps', mqt', bd', kp', kS', kR', kP', kQ', li') → W p l e rm_M_collect s m ([.ref oM, .int a1] : List Value).toArray below meth c H locs 0 0 Q (F0 m 4 ls []) := by
    intro n4
    induction n4 with
    | zero => exact fun msd mrt mps mqt bd kp kS kR kP kQ li x2 x3 H locs ls hl hP hD hS hf => absurd hf (by rw [lo_M_collect_4_z]; exact fun h => by cases h)
    | succ n4 ih4 =>
      have hJ150 : ∀ (msd : Int32) (mrt : Int32) (mps : Int32) (mqt : Int32) (bd : Nat → Int32) (kp : Nat → Int32) (kS : Nat → Int32) (kR : Nat → Int32) (kP : Nat → Int32) (kQ : Nat → Int32) (li : Nat → Int32) (x2 : Int32) (x3 : Int32) (H : Heap) (locs : List Loc) (ls : Array Slot), lv_has ls 7 [(0, .ref oM), (1, .int a1), (2, .int x2), (3, .int x3)] → va_P (dC, dI) classes [(oM, .inr (5, [.int mth, .int mpl, .ref obd, .int msd, .int mrt, .int mps, .int mqt, .int mmd, .ref opa, .ref opS, .ref opR, .ref opG, .ref opP, .ref opQ, .ref okp, .ref okS, .ref okR, .ref okP, .ref okQ, .ref oli])), (obd, .inl (cI, 64, .inl bd)), (opa, .inl (cI, 9664, .inl pa)), (opS, .inl (cI, 151, .inl pS)), (opR, .inl (cI, 151, .inl pR)), (opG, .inl (cI, 151, .inl pG)), (opP, .inl (cI, 151, .inl pP)), (opQ, .inl (cI, 151, .inl pQ)), (okp, .inl (cI, 256, .inl kp)), (okS, .inl (cI, 4, .inl kS)), (okR, .inl (cI, 4, .inl kR)), (okP, .inl (cI, 4, .inl kP)), (okQ, .inl (cI, 4, .inl kQ)), (oli, .inl (cI, 1320, .inl li))] H → va_D A [(oM, .inr (5, [.int mth, .int mpl, .ref obd, .int msd, .int mrt, .int mps, .int mqt, .int mmd, .ref opa, .ref opS, .ref opR, .ref opG, .ref opP, .ref opQ, .ref okp, .ref okS, .ref okR, .ref okP, .ref okQ, .ref oli])), (obd, .inl (cI, 64, .inl bd)), (opa, .inl (cI, 9664, .inl pa)), (opS, .inl (cI, 151, .inl pS)), (opR, .inl (cI, 151, .inl pR)), (opG, .inl (cI, 151, .inl pG)), (opP, .inl (cI, 151, .inl pP)), (opQ, .inl (cI, 151, .inl pQ)), (okp, .inl (cI, 256, .inl kp)), (okS, .inl (cI, 4, .inl kS)), (okR, .inl (cI, 4, .inl kR)), (okP, .inl (cI, 4, .inl kP)), (okQ, .inl (cI, 4, .inl kQ)), (oli, .inl (cI, 1320, .inl li))] → va_S A s.heap H locs → bk_M_collect_150 a1 (lo_M_collect_4 a1 n4) msd mrt mps mqt bd kp kS kR kP kQ li x2 x3 = some (rr, msd', mrt', mps', mqt', bd', kp', kS', kR', kP', kQ', li') → W p l e rm_M_collect s m ([.ref oM, .int a1] : List Value).toArray below meth c H locs 0 0 Q (F0 m 150 ls []) := by
        intro msd mrt mps mqt bd kp kS kR kP kQ li x2 x3 H locs ls hl hP hD hS hf
        rw [bk_M_collect_150] at hf
        obtain ⟨v1001, ev1001⟩ : ∃ z, z = x3 + 1 := ⟨_, rfl⟩
        replace hf := qq_lt ev1001 hf
        refine lv_iinc (k := 3) (v := v1001) (lv' := [(3, .int v1001), (0, .ref oM), (1, .int a1), (2, .int x2)]) hx hb dd_M_collect_150 hl rfl (by rw [ev1001]; exact congrArg _ (by decide)) (by decide) rfl (fun ls hl => ?_)
        refine lv_goto (tgt := 4) hx hb dd_M_collect_153 (by decide) ?_
        exact ih4 msd mrt mps mqt bd kp kS kR kP kQ li x2 v1001 _ _ _ (lv_sub hl [1, 2, 3, 0] rfl) hP hD hS hf
      have hL13 : ∀ (n13 : Nat) (msd : Int32) (mrt : Int32) (mps : Int32) (mqt : Int32) (bd : Nat → Int32) (kp : Nat → Int32) (kS : Nat → Int32) (kR : Nat → Int32) (kP : Nat → Int32) (kQ : Nat → Int32) (li : Nat → Int32) (x2 : Int32) (x3 : Int32) (x4 : Int32) (H : Heap) (locs : List Loc) (ls : Array Slot), lv_has ls 7 [(0, .ref oM), (1, .int a1), (2, .int x2), (3, .int x3), (4, .int x4)] → va_P (dC, dI) classes [(oM, .inr (5, [.int mth, .int mpl, .ref obd, .int msd, .int mrt, .int mps, .int mqt, .int mmd, .ref opa, .ref opS, .ref opR, .ref opG, .ref opP, .ref opQ, .ref okp, .ref okS, .ref okR, .ref okP, .ref okQ, .ref oli])), (obd, .inl (cI, 64, .inl bd)), (opa, .inl (cI, 9664, .inl pa)), (opS, .inl (cI, 151, .inl pS)), (opR, .inl (cI, 151, .inl pR)), (opG, .inl (cI, 151, .inl pG)), (opP, .inl (cI, 151, .inl pP)), (opQ, .inl (cI, 151, .inl pQ)), (okp, .inl (cI, 256, .inl kp)), (okS, .inl (cI, 4, .inl kS)), (okR, .inl (cI, 4, .inl kR)), (okP, .inl (cI, 4, .inl kP)), (okQ, .inl (cI, 4, .inl kQ)), (oli, .inl (cI, 1320, .inl li))] H → va_D A [(oM, .inr (5, [.int mth, .int mpl, .ref obd, .int msd, .int mrt, .int mps, .int mqt, .int mmd, .ref opa, .ref opS, .ref opR, .ref opG, .ref opP, .ref opQ, .ref okp, .ref okS, .ref okR, .ref okP, .ref okQ, .ref oli])), (obd, .inl (cI, 64, .inl bd)), (opa, .inl (cI, 9664, .inl pa)), (opS, .inl (cI, 151, .inl pS)), (opR, .inl (cI, 151, .inl pR)), (opG, .inl (cI, 151, .inl pG)), (opP, .inl (cI, 151, .inl pP)), (opQ, .inl (cI, 151, .inl pQ)), (okp, .inl (cI, 256, .inl kp)), (okS, .inl (cI, 4, .inl kS)), (okR, .inl (cI, 4, .inl kR)), (okP, .inl (cI, 4, .inl kP)), (okQ, .inl (cI, 4, .inl kQ)), (oli, .inl (cI, 1320, .inl li))] → va_S A s.heap H locs → lo_M_collect_13 a1 (lo_M_collect_4 a1 n4) n13 msd mrt mps mqt bd kp kS kR kP kQ li x2 x3 x4 = some (rr, msd', mrt', mps', mqt', bd', kp', kS', kR', kP', kQ', li') → W p l e rm_M_collect s m ([.ref oM, .int a1] : List Value).toArray below meth c H locs 0 0 Q (F0 m 13 ls []) := by
        intro n13
        induction n13 with
        | zero => exact fun msd mrt mps mqt bd kp kS kR kP kQ li x2 x3 x4 H locs ls hl hP hD hS hf => absurd hf (by rw [lo_M_collect_13_z]; exact fun h => by cases h)
        | succ n13 ih13 =>
          have hL82 : ∀ (n82 : Nat) (msd : Int32) (mrt : Int32) (mps : Int32) (mqt : Int32) (bd : Nat → Int32) (kp : Nat → Int32) (kS : Nat → Int32) (kR : Nat → Int32) (kP : Nat → Int32) (kQ : Nat → Int32) (li : Nat → Int32) (x2 : Int32) (x3 : Int32) (x4 : Int32) (x5 : Int32) (x6 : Int32) (H : Heap) (locs : List Loc) (ls : Array Slot), lv_has ls 7 [(0, .ref oM), (1, .int a1), (2, .int x2), (3, .int x3), (4, .int x4), (5, .int x5), (6, .int x6)] → va_P (dC, dI) classes [(oM, .inr (5, [.int mth, .int mpl, .ref obd, .int msd, .int mrt, .int mps, .int mqt, .int mmd, .ref opa, .ref opS, .ref opR, .ref opG, .ref opP, .ref opQ, .ref okp, .ref okS, .ref okR, .ref okP, .ref okQ, .ref oli])), (obd, .inl (cI, 64, .inl bd)), (opa, .inl (cI, 9664, .inl pa)), (opS, .inl (cI, 151, .inl pS)), (opR, .inl (cI, 151, .inl pR)), (opG, .inl (cI, 151, .inl pG)), (opP, .inl (cI, 151, .inl pP)), (opQ, .inl (cI, 151, .inl pQ)), (okp, .inl (cI, 256, .inl kp)), (okS, .inl (cI, 4, .inl kS)), (okR, .inl (cI, 4, .inl kR)), (okP, .inl (cI, 4, .inl kP)), (okQ, .inl (cI, 4, .inl kQ)), (oli, .inl (cI, 1320, .inl li))] H → va_D A [(oM, .inr (5, [.int mth, .int mpl, .ref obd, .int msd, .int mrt, .int mps, .int mqt, .int mmd, .ref opa, .ref opS, .ref opR, .ref opG, .ref opP, .ref opQ, .ref okp, .ref okS, .ref okR, .ref okP, .ref okQ, .ref oli])), (obd, .inl (cI, 64, .inl bd)), (opa, .inl (cI, 9664, .inl pa)), (opS, .inl (cI, 151, .inl pS)), (opR, .inl (cI, 151, .inl pR)), (opG, .inl (cI, 151, .inl pG)), (opP, .inl (cI, 151, .inl pP)), (opQ, .inl (cI, 151, .inl pQ)), (okp, .inl (cI, 256, .inl kp)), (okS, .inl (cI, 4, .inl kS)), (okR, .inl (cI, 4, .inl kR)), (okP, .inl (cI, 4, .inl kP)), (okQ, .inl (cI, 4, .inl kQ)), (oli, .inl (cI, 1320, .inl li))] → va_S A s.heap H locs → lo_M_collect_82 a1 (lo_M_collect_4 a1 n4) (lo_M_collect_13 a1 (lo_M_collect_4 a1 n4) n13) n82 msd mrt mps mqt bd kp kS kR kP kQ li x2 x3 x4 x5 x6 = some (rr, msd', mrt', mps', mqt', bd', kp', kS', kR', kP', kQ', li') → W p l e rm_M_collect s m ([.ref oM, .int a1] : List Value).toArray below meth c H locs 0 0 Q (F0 m 82 ls []) := by
            intro n82
            induction n82 with
            | zero => exact fun msd mrt mps mqt bd kp kS kR kP kQ li x2 x3 x4 x5 x6 H locs ls hl hP hD hS hf => absurd hf (by rw [lo_M_collect_82_z]; exact fun h => by cases h)
            | succ n82 ih82 =>
              have hJ138 : ∀ (msd : Int32) (mrt : Int32) (mps : Int32) (mqt : Int32) (bd : Nat → Int32) (kp : Nat → Int32) (kS : Nat → Int32) (kR : Nat → Int32) (kP : Nat → Int32) (kQ : Nat → Int32) (li : Nat → Int32) (x2 : Int32) (x3 : Int32) (x4 : Int32) (x5 : Int32) (x6 : Int32) (H : Heap) (locs : List Loc) (ls : Array Slot), lv_has ls 7 [(0, .ref oM), (1, .int a1), (2, .int x2), (3, .int x3), (4, .int x4), (5, .int x5), (6, .int x6)] → va_P (dC, dI) classes [(oM, .inr (5, [.int mth, .int mpl, .ref obd, .int msd, .int mrt, .int mps, .int mqt, .int mmd, .ref opa, .ref opS, .ref opR, .ref opG, .ref opP, .ref opQ, .ref okp, .ref okS, .ref okR, .ref okP, .ref okQ, .ref oli])), (obd, .inl (cI, 64, .inl bd)), (opa, .inl (cI, 9664, .inl pa)), (opS, .inl (cI, 151, .inl pS)), (opR, .inl (cI, 151, .inl pR)), (opG, .inl (cI, 151, .inl pG)), (opP, .inl (cI, 151, .inl pP)), (opQ, .inl (cI, 151, .inl pQ)), (okp, .inl (cI, 256, .inl kp)), (okS, .inl (cI, 4, .inl kS)), (okR, .inl (cI, 4, .inl kR)), (okP, .inl (cI, 4, .inl kP)), (okQ, .inl (cI, 4, .inl kQ)), (oli, .inl (cI, 1320, .inl li))] H → va_D A [(oM, .inr (5, [.int mth, .int mpl, .ref obd, .int msd, .int mrt, .int mps, .int mqt, .int mmd, .ref opa, .ref opS, .ref opR, .ref opG, .ref opP, .ref opQ, .ref okp, .ref okS, .ref okR, .ref okP, .ref okQ, .ref oli])), (obd, .inl (cI, 64, .inl bd)), (opa, .inl (cI, 9664, .inl pa)), (opS, .inl (cI, 151, .inl pS)), (opR, .inl (cI, 151, .inl pR)), (opG, .inl (cI, 151, .inl pG)), (opP, .inl (cI, 151, .inl pP)), (opQ, .inl (cI, 151, .inl pQ)), (okp, .inl (cI, 256, .inl kp)), (okS, .inl (cI, 4, .inl kS)), (okR, .inl (cI, 4, .inl kR)), (okP, .inl (cI, 4, .inl kP)), (okQ, .inl (cI, 4, .inl kQ)), (oli, .inl (cI, 1320, .inl li))] → va_S A s.heap H locs → bk_M_collect_138 a1 (lo_M_collect_4 a1 n4) (lo_M_collect_13 a1 (lo_M_collect_4 a1 n4) n13) (lo_M_collect_82 a1 (lo_M_collect_4 a1 n4) (lo_M_collect_13 a1 (lo_M_collect_4 a1 n4) n13) n82) msd mrt mps mqt bd kp kS kR kP kQ li x2 x3 x4 x5 x6 = some (rr, msd', mrt', mps', mqt', bd', kp', kS', kR', kP', kQ', li') → W p l e rm_M_collect s m ([.ref oM, .int a1] : List Value).toArray below meth c H locs 0 0 Q (F0 m 138 ls []) := by
                intro msd mrt mps mqt bd kp kS kR kP kQ li x2 x3 x4 x5 x6 H locs ls hl hP hD hS hf
                rw [bk_M_collect_138] at hf
                obtain ⟨v2001, ev2001⟩ : ∃ z, z = x6 + 1 := ⟨_, rfl⟩
                replace hf := qq_lt ev2001 hf
                refine lv_iinc (k := 6) (v := v2001) (lv' := [(6, .int v2001), (0, .ref oM), (1, .int a1), (2, .int x2), (3, .int x3), (4, .int x4), (5, .int x5)]) hx hb dd_M_collect_138 hl rfl (by rw [ev2001]; exact congrArg _ (by decide)) (by decide) rfl (fun ls hl => ?_)
                refine lv_goto (tgt := 82) hx hb dd_M_collect_141 (by decide) ?_
                exact ih82 msd mrt mps mqt bd kp kS kR kP kQ li x2 x3 x4 x5 v2001 _ _ _ (lv_sub hl [1, 2, 3, 4, 5, 6, 0] rfl) hP hD hS hf
              have hJ94 : ∀ (msd : Int32) (mrt : Int32) (mps : Int32) (mqt : Int32) (bd : Nat → Int32) (kp : Nat → Int32) (kS : Nat → Int32) (kR : Nat → Int32) (kP : Nat → Int32) (kQ : Nat → Int32) (li : Nat → Int32) (x2 : Int32) (x3 : Int32) (x4 : Int32) (x5 : Int32) (x6 : Int32) (s0 : Int32) (s1 : Int32) (H : Heap) (locs : List Loc) (ls : Array Slot), lv_has ls 7 [(0, .ref oM), (1, .int a1), (2, .int x2), (3, .int x3), (4, .int x4), (5, .int x5), (6, .int x6)] → va_P (dC, dI) classes [(oM, .inr (5, [.int mth, .int mpl, .ref obd, .int msd, .int mrt, .int mps, .int mqt, .int mmd, .ref opa, .ref opS, .ref opR, .ref opG, .ref opP, .ref opQ, .ref okp, .ref okS, .ref okR, .ref okP, .ref okQ, .ref oli])), (obd, .inl (cI, 64, .inl bd)), (opa, .inl (cI, 9664, .inl pa)), (opS, .inl (cI, 151, .inl pS)), (opR, .inl (cI, 151, .inl pR)), (opG, .inl (cI, 151, .inl pG)), (opP, .inl (cI, 151, .inl pP)), (opQ, .inl (cI, 151, .inl pQ)), (okp, .inl (cI, 256, .inl kp)), (okS, .inl (cI, 4, .inl kS)), (okR, .inl (cI, 4, .inl kR)), (okP, .inl (cI, 4, .inl kP)), (okQ, .inl (cI, 4, .inl kQ)), (oli, .inl (cI, 1320, .inl li))] H → va_D A [(oM, .inr (5, [.int mth, .int mpl, .ref obd, .int msd, .int mrt, .int mps, .int mqt, .int mmd, .ref opa, .ref opS, .ref opR, .ref opG, .ref opP, .ref opQ, .ref okp, .ref okS, .ref okR, .ref okP, .ref okQ, .ref oli])), (obd, .inl (cI, 64, .inl bd)), (opa, .inl (cI, 9664, .inl pa)), (opS, .inl (cI, 151, .inl pS)), (opR, .inl (cI, 151, .inl pR)), (opG, .inl (cI, 151, .inl pG)), (opP, .inl (cI, 151, .inl pP)), (opQ, .inl (cI, 151, .inl pQ)), (okp, .inl (cI, 256, .inl kp)), (okS, .inl (cI, 4, .inl kS)), (okR, .inl (cI, 4, .inl kR)), (okP, .inl (cI, 4, .inl kP)), (okQ, .inl (cI, 4, .inl kQ)), (oli, .inl (cI, 1320, .inl li))] → va_S A s.heap H locs → bk_M_collect_94 a1 (lo_M_collect_4 a1 n4) (lo_M_collect_13 a1 (lo_M_collect_4 a1 n4) n13) (lo_M_collect_82 a1 (lo_M_collect_4 a1 n4) (lo_M_collect_13 a1 (lo_M_collect_4 a1 n4) n13) n82) msd mrt mps mqt bd kp kS kR kP kQ li x2 x3 x4 x5 x6 s0 s1 = some (rr, msd', mrt', mps', mqt', bd', kp', kS', kR', kP', kQ', li') → W p l e rm_M_collect s m ([.ref oM, .int a1] : List Value).toArray below meth c H locs 0 0 Q (F0 m 94 ls [.int s1, .int s0]) := by
                intro msd mrt mps mqt bd kp kS kR kP kQ li x2 x3 x4 x5 x6 s0 s1 H locs ls hl hP hD hS hf
                rw [bk_M_collect_94] at hf
                refine lv_icmp_gt (tgt := 144) hx hb dd_M_collect_94 (by decide) (fun hc => ?_) (fun hc => ?_)
                · replace hf := qq_t hc hf
                  obtain ⟨v3001, ev3001⟩ : ∃ z, z = x4 + 1 := ⟨_, rfl⟩
                  replace hf := qq_lt ev3001 hf
                  refine lv_iinc (k := 4) (v := v3001) (lv' := [(4, .int v3001), (0, .ref oM), (1, .int a1), (2, .int x2), (3, .int x3), (5, .int x5), (6, .int x6)]) hx hb dd_M_collect_144 hl rfl (by rw [ev3001]; exact congrArg _ (by decide)) (by decide) rfl (fun ls hl => ?_)
                  refine lv_goto (tgt := 13) hx hb dd_M_collect_147 (by decide) ?_
                  exact ih13 msd mrt mps mqt bd kp kS kR kP kQ li x2 x3 v3001 _ _ _ (lv_sub hl [1, 2, 3, 4, 0] rfl) hP hD hS hf
                · replace hf := qq_f hc hf
                  refine lv_aload_n hx hb dd_M_collect_97 rfl (lv_at hl 0 rfl) ?_
                  refine lv_iload_n hx hb dd_M_collect_98 rfl (lv_at hl 3 rfl) ?_
                  refine lv_iload hx hb dd_M_collect_99 (lv_at hl 4 rfl) ?_
                  refine lv_iload hx hb dd_M_collect_101 (lv_at hl 6 rfl) ?_
                  obtain ⟨⟨r3002, msd_3003, mrt_3004, mps_3005, mqt_3006, bd_3007, kp_3008, kS_3009, kR_3010, kP_3011, kQ_3012⟩, hy3012, hf⟩ := qq_bd hf
                  dsimp only at hf
                  refine qq_V (As := [.int x3, .int x4, .int x6]) (rest := []) (wr := []) (wf := [(oM, .inr (5, [.int mth, .int mpl, .ref obd, .int msd_3003, .int mrt_3004, .int mps_3005, .int mqt_3006, .int mmd, .ref opa, .ref opS, .ref opR, .ref opG, .ref opP, .ref opQ, .ref okp, .ref okS, .ref okR, .ref okP, .ref okQ, .ref oli])), (obd, .inl (cI, 64, .inl bd_3007)), (opa, .inl (cI, 9664, .inl pa)), (opS, .inl (cI, 151, .inl pS)), (opR, .inl (cI, 151, .inl pR)), (opG, .inl (cI, 151, .inl pG)), (opP, .inl (cI, 151, .inl pP)), (opQ, .inl (cI, 151, .inl pQ)), (okp, .inl (cI, 256, .inl kp_3008)), (okS, .inl (cI, 4, .inl kS_3009)), (okR, .inl (cI, 4, .inl kR_3010)), (okP, .inl (cI, 4, .inl kP_3011)), (okQ, .inl (cI, 4, .inl kQ_3012)), (oli, .inl (cI, 1320, .inl li))]) ⟨hx, hb, hml, hown, hts⟩ (ct_M_isMove l dC dI cI cL cR oM obd opa opS opR opG opP opQ okp okS okR okP okQ oli mth mpl msd mrt mps mqt mmd bd pa pS pR pG pP pQ kp kS kR kP kQ li x3 x4 x6 hy3012) mm_290 mm_291 mm_292 mm_289 mm_211 hd_M_isMove (by decide) qq_00 hP hD hK hS hA hT hN (q0 := 0) (ci := 5) rfl rfl [0, 1, 2, 3, 4, 5, 6, 7, 8, 9, 10, 11, 12, 13] [] [0, 1, 2, 3, 4, 5, 6, 7, 8, 9, 10, 11, 12, 13] rfl rfl rfl (by decide) rfl hl.1 rfl (Nat.le_of_ble_eq_true rfl) dd_M_collect_103 (fun H locs hP hD hS => ?_)
                  refine W.eq (g2 := F0 m 106 ls [.int r3002]) rfl ?_
                  refine lv_if_eq (tgt := 138) hx hb dd_M_collect_106 (by decide) (fun hc => ?_) (fun hc => ?_)
                  · replace hf := qq_t hc hf
                    exact hJ138 msd_3003 mrt_3004 mps_3005 mqt_3006 bd_3007 kp_3008 kS_3009 kR_3010 kP_3011 kQ_3012 li x2 x3 x4 x5 x6 _ _ _ (lv_sub hl [0, 1, 2, 3, 4, 5, 6] rfl) hP hD hS hf
                  · replace hf := qq_f hc hf
                    refine lv_aload_n hx hb dd_M_collect_109 rfl (lv_at hl 0 rfl) ?_
                    refine va_get (D := (dC, dI)) (ci := 5) (v := .ref oli) (C := RR_M) (T := FF_M) (N := 20) hx hb hts uu_M hown hK hP 0 rfl rfl 19 (by decide) (hts _ mm_293) (fun _ h9 => h9) rfl dd_M_collect_110 ?_
                    refine lv_sipush (v := 440) hx hb dd_M_collect_113 (by decide) ?_
                    refine lv_iload_n hx hb dd_M_collect_116 rfl (lv_at hl 1 rfl) ?_
                    refine lv_imul hx hb dd_M_collect_117 ?_
                    refine lv_iload_n hx hb dd_M_collect_118 rfl (lv_at hl 2 rfl) ?_
                    refine lv_iadd hx hb dd_M_collect_119 ?_
                    refine lv_iload_n hx hb dd_M_collect_120 rfl (lv_at hl 3 rfl) ?_
                    refine lv_bipush (v := 64) hx hb dd_M_collect_121 (by decide) ?_
                    refine lv_iload hx hb dd_M_collect_123 (lv_at hl 4 rfl) ?_
                    refine lv_imul hx hb dd_M_collect_125 ?_
                    refine lv_iadd hx hb dd_M_collect_126 ?_
                    refine lv_sipush (v := 4096) hx hb dd_M_collect_127 (by decide) ?_
                    refine lv_iload hx hb dd_M_collect_130 (lv_at hl 6 rfl) ?_
                    refine lv_imul hx hb dd_M_collect_132 ?_
                    refine lv_iadd hx hb dd_M_collect_133 ?_
                    obtain ⟨hi3013, hf⟩ := qq_ckE hf
                    refine va_iast (D := (dC, dI)) (f := li) (n := 1320) (cA := cI) hx hb hK hP hD hS 13 0 rfl rfl (qq_inE hi3013) dd_M_collect_134 (fun H locs hP hD hS => ?_)
                    obtain ⟨li_3014, eli_3014⟩ : ∃ z, z = upd li ((440 * a1) + x2).toNatClampNeg ((x3 + (64 * x4)) + (4096 * x6)) := ⟨_, rfl⟩
                    replace hf := qq_lt eli_3014 hf
                    have hP : va_P (dC, dI) classes [(oM, .inr (5, [.int mth, .int mpl, .ref obd, .int msd_3003, .int mrt_3004, .int mps_3005, .int mqt_3006, .int mmd, .ref opa, .ref opS, .ref opR, .ref opG, .ref opP, .ref opQ, .ref okp, .ref okS, .ref okR, .ref okP, .ref okQ, .ref oli])), (obd, .inl (cI, 64, .inl bd_3007)), (opa, .inl (cI, 9664, .inl pa)), (opS, .inl (cI, 151, .inl pS)), (opR, .inl (cI, 151, .inl pR)), (opG, .inl (cI, 151, .inl pG)), (opP, .inl (cI, 151, .inl pP)), (opQ, .inl (cI, 151, .inl pQ)), (okp, .inl (cI, 256, .inl kp_3008)), (okS, .inl (cI, 4, .inl kS_3009)), (okR, .inl (cI, 4, .inl kR_3010)), (okP, .inl (cI, 4, .inl kP_3011)), (okQ, .inl (cI, 4, .inl kQ_3012)), (oli, .inl (cI, 1320, .inl li_3014))] H := by rw [eli_3014]; exact hP
                    have hD : va_D A [(oM, .inr (5, [.int mth, .int mpl, .ref obd, .int msd_3003, .int mrt_3004, .int mps_3005, .int mqt_3006, .int mmd, .ref opa, .ref opS, .ref opR, .ref opG, .ref opP, .ref opQ, .ref okp, .ref okS, .ref okR, .ref okP, .ref okQ, .ref oli])), (obd, .inl (cI, 64, .inl bd_3007)), (opa, .inl (cI, 9664, .inl pa)), (opS, .inl (cI, 151, .inl pS)), (opR, .inl (cI, 151, .inl pR)), (opG, .inl (cI, 151, .inl pG)), (opP, .inl (cI, 151, .inl pP)), (opQ, .inl (cI, 151, .inl pQ)), (okp, .inl (cI, 256, .inl kp_3008)), (okS, .inl (cI, 4, .inl kS_3009)), (okR, .inl (cI, 4, .inl kR_3010)), (okP, .inl (cI, 4, .inl kP_3011)), (okQ, .inl (cI, 4, .inl kQ_3012)), (oli, .inl (cI, 1320, .inl li_3014))] := by rw [eli_3014]; exact hD
                    obtain ⟨v3015, ev3015⟩ : ∃ z, z = x2 + 1 := ⟨_, rfl⟩
                    replace hf := qq_lt ev3015 hf
                    refine lv_iinc (k := 2) (v := v3015) (lv' := [(2, .int v3015), (0, .ref oM), (1, .int a1), (3, .int x3), (4, .int x4), (5, .int x5), (6, .int x6)]) hx hb dd_M_collect_135 hl rfl (by rw [ev3015]; exact congrArg _ (by decide)) (by decide) rfl (fun ls hl => ?_)
                    exact hJ138 msd_3003 mrt_3004 mps_3005 mqt_3006 bd_3007 kp_3008 kS_3009 kR_3010 kP_3011 kQ_3012 li_3014 v3015 x3 x4 x5 x6 _ _ _ (lv_sub hl [1, 2, 0, 3, 4, 5, 6] rfl) hP hD hS hf
              intro msd mrt mps mqt bd kp kS kR kP kQ li x2 x3 x4 x5 x6 H locs ls hl hP hD hS hf
              rw [lo_M_collect_82_s] at hf
              refine lv_iload hx hb dd_M_collect_82 (lv_at hl 6 rfl) ?_
              refine lv_iload hx hb dd_M_collect_84 (lv_at hl 5 rfl) ?_
              refine lv_if_eq (tgt := 93) hx hb dd_M_collect_86 (by decide) (fun hc => ?_) (fun hc => ?_)
              · replace hf := qq_t hc hf
                refine lv_iconst (v := 0) hx hb dd_M_collect_93 (by decide) ?_
                exact hJ94 msd mrt mps mqt bd kp kS kR kP kQ li x2 x3 x4 x5 x6 x6 0 _ _ _ (lv_sub hl [0, 1, 2, 3, 4, 5, 6] rfl) hP hD hS hf
              · replace hf := qq_f hc hf
                refine lv_iconst (v := 5) hx hb dd_M_collect_89 (by decide) ?_
                refine lv_goto (tgt := 94) hx hb dd_M_collect_90 (by decide) ?_
                exact hJ94 msd mrt mps mqt bd kp kS kR kP kQ li x2 x3 x4 x5 x6 x6 5 _ _ _ (lv_sub hl [0, 1, 2, 3, 4, 5, 6] rfl) hP hD hS hf
          have hJ80 : ∀ (msd : Int32) (mrt : Int32) (mps : Int32) (mqt : Int32) (bd : Nat → Int32) (kp : Nat → Int32) (kS : Nat → Int32) (kR : Nat → Int32) (kP : Nat → Int32) (kQ : Nat → Int32) (li : Nat → Int32) (x2 : Int32) (x3 : Int32) (x4 : Int32) (x5 : Int32) (s0 : Int32) (H : Heap) (locs : List Loc) (ls : Array Slot), lv_has ls 7 [(0, .ref oM), (1, .int a1), (2, .int x2), (3, .int x3), (4, .int x4), (5, .int x5)] → va_P (dC, dI) classes [(oM, .inr (5, [.int mth, .int mpl, .ref obd, .int msd, .int mrt, .int mps, .int mqt, .int mmd, .ref opa, .ref opS, .ref opR, .ref opG, .ref opP, .ref opQ, .ref okp, .ref okS, .ref okR, .ref okP, .ref okQ, .ref oli])), (obd, .inl (cI, 64, .inl bd)), (opa, .inl (cI, 9664, .inl pa)), (opS, .inl (cI, 151, .inl pS)), (opR, .inl (cI, 151, .inl pR)), (opG, .inl (cI, 151, .inl pG)), (opP, .inl (cI, 151, .inl pP)), (opQ, .inl (cI, 151, .inl pQ)), (okp, .inl (cI, 256, .inl kp)), (okS, .inl (cI, 4, .inl kS)), (okR, .inl (cI, 4, .inl kR)), (okP, .inl (cI, 4, .inl kP)), (okQ, .inl (cI, 4, .inl kQ)), (oli, .inl (cI, 1320, .inl li))] H → va_D A [(oM, .inr (5, [.int mth, .int mpl, .ref obd, .int msd, .int mrt, .int mps, .int mqt, .int mmd, .ref opa, .ref opS, .ref opR, .ref opG, .ref opP, .ref opQ, .ref okp, .ref okS, .ref okR, .ref okP, .ref okQ, .ref oli])), (obd, .inl (cI, 64, .inl bd)), (opa, .inl (cI, 9664, .inl pa)), (opS, .inl (cI, 151, .inl pS)), (opR, .inl (cI, 151, .inl pR)), (opG, .inl (cI, 151, .inl pG)), (opP, .inl (cI, 151, .inl pP)), (opQ, .inl (cI, 151, .inl pQ)), (okp, .inl (cI, 256, .inl kp)), (okS, .inl (cI, 4, .inl kS)), (okR, .inl (cI, 4, .inl kR)), (okP, .inl (cI, 4, .inl kP)), (okQ, .inl (cI, 4, .inl kQ)), (oli, .inl (cI, 1320, .inl li))] → va_S A s.heap H locs → bk_M_collect_80 a1 (lo_M_collect_4 a1 n4) (lo_M_collect_13 a1 (lo_M_collect_4 a1 n4) n13) msd mrt mps mqt bd kp kS kR kP kQ li x2 x3 x4 x5 s0 = some (rr, msd', mrt', mps', mqt', bd', kp', kS', kR', kP', kQ', li') → W p l e rm_M_collect s m ([.ref oM, .int a1] : List Value).toArray below meth c H locs 0 0 Q (F0 m 80 ls [.int s0]) := by
            intro msd mrt mps mqt bd kp kS kR kP kQ li x2 x3 x4 x5 s0 H locs ls hl hP hD hS hf
            rw [bk_M_collect_80] at hf
            refine lv_istore (lv' := [(6, .int s0), (0, .ref oM), (1, .int a1), (2, .int x2), (3, .int x3), (4, .int x4), (5, .int x5)]) hx hb dd_M_collect_80 hl (by decide) rfl (fun ls hl => ?_)
            exact hL82 qq_FU msd mrt mps mqt bd kp kS kR kP kQ li x2 x3 x4 x5 s0 _ _ _ (lv_sub hl [1, 2, 3, 4, 5, 6, 0] rfl) hP hD hS hf
          have hJ68 : ∀ (msd : Int32) (mrt : Int32) (mps : Int32) (mqt : Int32) (bd : Nat → Int32) (kp : Nat → Int32) (kS : Nat → Int32) (kR : Nat → Int32) (kP : Nat → Int32) (kQ : Nat → Int32) (li : Nat → Int32) (x2 : Int32) (x3 : Int32) (x4 : Int32) (s0 : Int32) (H : Heap) (locs : List Loc) (ls : Array Slot), lv_has ls 7 [(0, .ref oM), (1, .int a1), (2, .int x2), (3, .int x3), (4, .int x4)] → va_P (dC, dI) classes [(oM, .inr (5, [.int mth, .int mpl, .ref obd, .int msd, .int mrt, .int mps, .int mqt, .int mmd, .ref opa, .ref opS, .ref opR, .ref opG, .ref opP, .ref opQ, .ref okp, .ref okS, .ref okR, .ref okP, .ref okQ, .ref oli])), (obd, .inl (cI, 64, .inl bd)), (opa, .inl (cI, 9664, .inl pa)), (opS, .inl (cI, 151, .inl pS)), (opR, .inl (cI, 151, .inl pR)), (opG, .inl (cI, 151, .inl pG)), (opP, .inl (cI, 151, .inl pP)), (opQ, .inl (cI, 151, .inl pQ)), (okp, .inl (cI, 256, .inl kp)), (okS, .inl (cI, 4, .inl kS)), (okR, .inl (cI, 4, .inl kR)), (okP, .inl (cI, 4, .inl kP)), (okQ, .inl (cI, 4, .inl kQ)), (oli, .inl (cI, 1320, .inl li))] H → va_D A [(oM, .inr (5, [.int mth, .int mpl, .ref obd, .int msd, .int mrt, .int mps, .int mqt, .int mmd, .ref opa, .ref opS, .ref opR, .ref opG, .ref opP, .ref opQ, .ref okp, .ref okS, .ref okR, .ref okP, .ref okQ, .ref oli])), (obd, .inl (cI, 64, .inl bd)), (opa, .inl (cI, 9664, .inl pa)), (opS, .inl (cI, 151, .inl pS)), (opR, .inl (cI, 151, .inl pR)), (opG, .inl (cI, 151, .inl pG)), (opP, .inl (cI, 151, .inl pP)), (opQ, .inl (cI, 151, .inl pQ)), (okp, .inl (cI, 256, .inl kp)), (okS, .inl (cI, 4, .inl kS)), (okR, .inl (cI, 4, .inl kR)), (okP, .inl (cI, 4, .inl kP)), (okQ, .inl (cI, 4, .inl kQ)), (oli, .inl (cI, 1320, .inl li))] → va_S A s.heap H locs → bk_M_collect_68 a1 (lo_M_collect_4 a1 n4) (lo_M_collect_13 a1 (lo_M_collect_4 a1 n4) n13) msd mrt mps mqt bd kp kS kR kP kQ li x2 x3 x4 s0 = some (rr, msd', mrt', mps', mqt', bd', kp', kS', kR', kP', kQ', li') → W p l e rm_M_collect s m ([.ref oM, .int a1] : List Value).toArray below meth c H locs 0 0 Q (F0 m 68 ls [.int s0]) := by
            intro msd mrt mps mqt bd kp kS kR kP kQ li x2 x3 x4 s0 H locs ls hl hP hD hS hf
            rw [bk_M_collect_68] at hf
            refine lv_istore (lv' := [(5, .int s0), (0, .ref oM), (1, .int a1), (2, .int x2), (3, .int x3), (4, .int x4)]) hx hb dd_M_collect_68 hl (by decide) rfl (fun ls hl => ?_)
            refine lv_iload hx hb dd_M_collect_70 (lv_at hl 0 rfl) ?_
            refine lv_if_eq (tgt := 79) hx hb dd_M_collect_72 (by decide) (fun hc => ?_) (fun hc => ?_)
            · replace hf := qq_t hc hf
              refine lv_iconst (v := 0) hx hb dd_M_collect_79 (by decide) ?_
              exact hJ80 msd mrt mps mqt bd kp kS kR kP kQ li x2 x3 x4 s0 0 _ _ _ (lv_sub hl [1, 2, 3, 4, 5, 0] rfl) hP hD hS hf
            · replace hf := qq_f hc hf
              refine lv_iconst (v := 2) hx hb dd_M_collect_75 (by decide) ?_
              refine lv_goto (tgt := 80) hx hb dd_M_collect_76 (by decide) ?_
              exact hJ80 msd mrt mps mqt bd kp kS kR kP kQ li x2 x3 x4 s0 2 _ _ _ (lv_sub hl [1, 2, 3, 4, 5, 0] rfl) hP hD hS hf
          have hJ67 : ∀ (msd : Int32) (mrt : Int32) (mps : Int32) (mqt : Int32) (bd : Nat → Int32) (kp : Nat → Int32) (kS : Nat → Int32) (kR : Nat → Int32) (kP : Nat → Int32) (kQ : Nat → Int32) (li : Nat → Int32) (x2 : Int32) (x3 : Int32) (x4 : Int32) (H : Heap) (locs : List Loc) (ls : Array Slot), lv_has ls 7 [(0, .ref oM), (1, .int a1), (2, .int x2), (3, .int x3), (4, .int x4)] → va_P (dC, dI) classes [(oM, .inr (5, [.int mth, .int mpl, .ref obd, .int msd, .int mrt, .int mps, .int mqt, .int mmd, .ref opa, .ref opS, .ref opR, .ref opG, .ref opP, .ref opQ, .ref okp, .ref okS, .ref okR, .ref okP, .ref okQ, .ref oli])), (obd, .inl (cI, 64, .inl bd)), (opa, .inl (cI, 9664, .inl pa)), (opS, .inl (cI, 151, .inl pS)), (opR, .inl (cI, 151, .inl pR)), (opG, .inl (cI, 151, .inl pG)), (opP, .inl (cI, 151, .inl pP)), (opQ, .inl (cI, 151, .inl pQ)), (okp, .inl (cI, 256, .inl kp)), (okS, .inl (cI, 4, .inl kS)), (okR, .inl (cI, 4, .inl kR)), (okP, .inl (cI, 4, .inl kP)), (okQ, .inl (cI, 4, .inl kQ)), (oli, .inl (cI, 1320, .inl li))] H → va_D A [(oM, .inr (5, [.int mth, .int mpl, .ref obd, .int msd, .int mrt, .int mps, .int mqt, .int mmd, .ref opa, .ref opS, .ref opR, .ref opG, .ref opP, .ref opQ, .ref okp, .ref okS, .ref okR, .ref okP, .ref okQ, .ref oli])), (obd, .inl (cI, 64, .inl bd)), (opa, .inl (cI, 9664, .inl pa)), (opS, .inl (cI, 151, .inl pS)), (opR, .inl (cI, 151, .inl pR)), (opG, .inl (cI, 151, .inl pG)), (opP, .inl (cI, 151, .inl pP)), (opQ, .inl (cI, 151, .inl pQ)), (okp, .inl (cI, 256, .inl kp)), (okS, .inl (cI, 4, .inl kS)), (okR, .inl (cI, 4, .inl kR)), (okP, .inl (cI, 4, .inl kP)), (okQ, .inl (cI, 4, .inl kQ)), (oli, .inl (cI, 1320, .inl li))] → va_S A s.heap H locs → bk_M_collect_67 a1 (lo_M_collect_4 a1 n4) (lo_M_collect_13 a1 (lo_M_collect_4 a1 n4) n13) msd mrt mps mqt bd kp kS kR kP kQ li x2 x3 x4 = some (rr, msd', mrt', mps', mqt', bd', kp', kS', kR', kP', kQ', li') → W p l e rm_M_collect s m ([.ref oM, .int a1] : List Value).toArray below meth c H locs 0 0 Q (F0 m 67 ls []) := by
            intro msd mrt mps mqt bd kp kS kR kP kQ li x2 x3 x4 H locs ls hl hP hD hS hf
            rw [bk_M_collect_67] at hf
            refine lv_iconst (v := 0) hx hb dd_M_collect_67 (by decide) ?_
            exact hJ68 msd mrt mps mqt bd kp kS kR kP kQ li x2 x3 x4 0 _ _ _ (lv_sub hl [0, 1, 2, 3, 4] rfl) hP hD hS hf
          have hJ63 : ∀ (msd : Int32) (mrt : Int32) (mps : Int32) (mqt : Int32) (bd : Nat → Int32) (kp : Nat → Int32) (kS : Nat → Int32) (kR : Nat → Int32) (kP : Nat → Int32) (kQ : Nat → Int32) (li : Nat → Int32) (x2 : Int32) (x3 : Int32) (x4 : Int32) (H : Heap) (locs : List Loc) (ls : Array Slot), lv_has ls 7 [(0, .ref oM), (1, .int a1), (2, .int x2), (3, .int x3), (4, .int x4)] → va_P (dC, dI) classes [(oM, .inr (5, [.int mth, .int mpl, .ref obd, .int msd, .int mrt, .int mps, .int mqt, .int mmd, .ref opa, .ref opS, .ref opR, .ref opG, .ref opP, .ref opQ, .ref okp, .ref okS, .ref okR, .ref okP, .ref okQ, .ref oli])), (obd, .inl (cI, 64, .inl bd)), (opa, .inl (cI, 9664, .inl pa)), (opS, .inl (cI, 151, .inl pS)), (opR, .inl (cI, 151, .inl pR)), (opG, .inl (cI, 151, .inl pG)), (opP, .inl (cI, 151, .inl pP)), (opQ, .inl (cI, 151, .inl pQ)), (okp, .inl (cI, 256, .inl kp)), (okS, .inl (cI, 4, .inl kS)), (okR, .inl (cI, 4, .inl kR)), (okP, .inl (cI, 4, .inl kP)), (okQ, .inl (cI, 4, .inl kQ)), (oli, .inl (cI, 1320, .inl li))] H → va_D A [(oM, .inr (5, [.int mth, .int mpl, .ref obd, .int msd, .int mrt, .int mps, .int mqt, .int mmd, .ref opa, .ref opS, .ref opR, .ref opG, .ref opP, .ref opQ, .ref okp, .ref okS, .ref okR, .ref okP, .ref okQ, .ref oli])), (obd, .inl (cI, 64, .inl bd)), (opa, .inl (cI, 9664, .inl pa)), (opS, .inl (cI, 151, .inl pS)), (opR, .inl (cI, 151, .inl pR)), (opG, .inl (cI, 151, .inl pG)), (opP, .inl (cI, 151, .inl pP)), (opQ, .inl (cI, 151, .inl pQ)), (okp, .inl (cI, 256, .inl kp)), (okS, .inl (cI, 4, .inl kS)), (okR, .inl (cI, 4, .inl kR)), (okP, .inl (cI, 4, .inl kP)), (okQ, .inl (cI, 4, .inl kQ)), (oli, .inl (cI, 1320, .inl li))] → va_S A s.heap H locs → bk_M_collect_63 a1 (lo_M_collect_4 a1 n4) (lo_M_collect_13 a1 (lo_M_collect_4 a1 n4) n13) msd mrt mps mqt bd kp kS kR kP kQ li x2 x3 x4 = some (rr, msd', mrt', mps', mqt', bd', kp', kS', kR', kP', kQ', li') → W p l e rm_M_collect s m ([.ref oM, .int a1] : List Value).toArray below meth c H locs 0 0 Q (F0 m 63 ls []) := by
            intro msd mrt mps mqt bd kp kS kR kP kQ li x2 x3 x4 H locs ls hl hP hD hS hf
            rw [bk_M_collect_63] at hf
            refine lv_iconst (v := 1) hx hb dd_M_collect_63 (by decide) ?_
            refine lv_goto (tgt := 68) hx hb dd_M_collect_64 (by decide) ?_
            exact hJ68 msd mrt mps mqt bd kp kS kR kP kQ li x2 x3 x4 1 _ _ _ (lv_sub hl [0, 1, 2, 3, 4] rfl) hP hD hS hf
          intro msd mrt mps mqt bd kp kS kR kP kQ li x2 x3 x4 H locs ls hl hP hD hS hf
          rw [lo_M_collect_13_s] at hf
          refine lv_iload hx hb dd_M_collect_13 (lv_at hl 4 rfl) ?_
          refine lv_bipush (v := 64) hx hb dd_M_collect_15 (by decide) ?_
          refine lv_icmp_ge (tgt := 150) hx hb dd_M_collect_17 (by decide) (fun hc => ?_) (fun hc => ?_)
          · replace hf := qq_t hc hf
            exact hJ150 msd mrt mps mqt bd kp kS kR kP kQ li x2 x3 _ _ _ (lv_sub hl [0, 1, 2, 3] rfl) hP hD hS hf
          · replace hf := qq_f hc hf
            refine lv_aload_n hx hb dd_M_collect_20 rfl (lv_at hl 0 rfl) ?_
            refine va_get (D := (dC, dI)) (ci := 5) (v := .ref obd) (C := RR_M) (T := FF_M) (N := 20) hx hb hts uu_M hown hK hP 0 rfl rfl 2 (by decide) (hts _ mm_209) (fun _ h9 => h9) rfl dd_M_collect_21 ?_
            refine lv_iload_n hx hb dd_M_collect_24 rfl (lv_at hl 3 rfl) ?_
            obtain ⟨hi9001, hf⟩ := qq_ckE hf
            refine va_iald (D := (dC, dI)) (f := bd) (n := 64) (cA := cI) hx hb hK hP 1 0 rfl rfl (qq_inE hi9001) dd_M_collect_25 ?_
            refine lv_aload_n hx hb dd_M_collect_26 rfl (lv_at hl 0 rfl) ?_
            refine va_get (D := (dC, dI)) (ci := 5) (v := .int msd) (C := RR_M) (T := FF_M) (N := 20) hx hb hts uu_M hown hK hP 0 rfl rfl 3 (by decide) (hts _ mm_228) (fun _ h9 => h9) rfl dd_M_collect_27 ?_
            obtain ⟨r9002, hy9002, hf⟩ := qq_bd hf
            refine qq_S (As := [.int (bd x3.toNatClampNeg), .int msd]) (rest := []) (wr := [(oM, .inr (5, [.int mth, .int mpl, .ref obd, .int msd, .int mrt, .int mps, .int mqt, .int mmd, .ref opa, .ref opS, .ref opR, .ref opG, .ref opP, .ref opQ, .ref okp, .ref okS, .ref okR, .ref okP, .ref okQ, .ref oli])), (obd, .inl (cI, 64, .inl bd)), (opa, .inl (cI, 9664, .inl pa)), (opS, .inl (cI, 151, .inl pS)), (opR, .inl (cI, 151, .inl pR)), (opG, .inl (cI, 151, .inl pG)), (opP, .inl (cI, 151, .inl pP)), (opQ, .inl (cI, 151, .inl pQ)), (okp, .inl (cI, 256, .inl kp)), (okS, .inl (cI, 4, .inl kS)), (okR, .inl (cI, 4, .inl kR)), (okP, .inl (cI, 4, .inl kP)), (okQ, .inl (cI, 4, .inl kQ)), (oli, .inl (cI, 1320, .inl li))]) (wf := [(oM, .inr (5, [.int mth, .int mpl, .ref obd, .int msd, .int mrt, .int mps, .int mqt, .int mmd, .ref opa, .ref opS, .ref opR, .ref opG, .ref opP, .ref opQ, .ref okp, .ref okS, .ref okR, .ref okP, .ref okQ, .ref oli])), (obd, .inl (cI, 64, .inl bd)), (opa, .inl (cI, 9664, .inl pa)), (opS, .inl (cI, 151, .inl pS)), (opR, .inl (cI, 151, .inl pR)), (opG, .inl (cI, 151, .inl pG)), (opP, .inl (cI, 151, .inl pP)), (opQ, .inl (cI, 151, .inl pQ)), (okp, .inl (cI, 256, .inl kp)), (okS, .inl (cI, 4, .inl kS)), (okR, .inl (cI, 4, .inl kR)), (okP, .inl (cI, 4, .inl kP)), (okQ, .inl (cI, 4, .inl kQ)), (oli, .inl (cI, 1320, .inl li))]) ⟨hx, hb, hml, hown, hts⟩ (ct_M_isOf l dC dI cI cL cR (bd x3.toNatClampNeg) msd hy9002) mm_241 mm_242 mm_240 mm_211 hd_M_isOf (by decide) qq_00 hP hD hK hS hA hT hN [] [0, 1, 2, 3, 4, 5, 6, 7, 8, 9, 10, 11, 12, 13] [0, 1, 2, 3, 4, 5, 6, 7, 8, 9, 10, 11, 12, 13] rfl rfl rfl (by decide) rfl hl.1 rfl (Nat.le_of_ble_eq_true rfl) dd_M_collect_30 (fun H locs hP hD hS => ?_)
            refine W.eq (g2 := F0 m 33 ls [.int r9002]) rfl ?_
            refine lv_if_eq (tgt := 150) hx hb dd_M_collect_33 (by decide) (fun hc => ?_) (fun hc => ?_)
            · replace hf := qq_t hc hf
              exact hJ150 msd mrt mps mqt bd kp kS kR kP kQ li x2 x3 _ _ _ (lv_sub hl [0, 1, 2, 3] rfl) hP hD hS hf
            · replace hf := qq_f hc hf
              refine lv_aload_n hx hb dd_M_collect_36 rfl (lv_at hl 0 rfl) ?_
              refine va_get (D := (dC, dI)) (ci := 5) (v := .ref obd) (C := RR_M) (T := FF_M) (N := 20) hx hb hts uu_M hown hK hP 0 rfl rfl 2 (by decide) (hts _ mm_209) (fun _ h9 => h9) rfl dd_M_collect_37 ?_
              refine lv_iload_n hx hb dd_M_collect_40 rfl (lv_at hl 3 rfl) ?_
              obtain ⟨hi9003, hf⟩ := qq_ckE hf
              refine va_iald (D := (dC, dI)) (f := bd) (n := 64) (cA := cI) hx hb hK hP 1 0 rfl rfl (qq_inE hi9003) dd_M_collect_41 ?_
              obtain ⟨r9004, hy9004, hf⟩ := qq_bd hf
              refine qq_S (As := [.int (bd x3.toNatClampNeg)]) (rest := []) (wr := [(oM, .inr (5, [.int mth, .int mpl, .ref obd, .int msd, .int mrt, .int mps, .int mqt, .int mmd, .ref opa, .ref opS, .ref opR, .ref opG, .ref opP, .ref opQ, .ref okp, .ref okS, .ref okR, .ref okP, .ref okQ, .ref oli])), (obd, .inl (cI, 64, .inl bd)), (opa, .inl (cI, 9664, .inl pa)), (opS, .inl (cI, 151, .inl pS)), (opR, .inl (cI, 151, .inl pR)), (opG, .inl (cI, 151, .inl pG)), (opP, .inl (cI, 151, .inl pP)), (opQ, .inl (cI, 151, .inl pQ)), (okp, .inl (cI, 256, .inl kp)), (okS, .inl (cI, 4, .inl kS)), (okR, .inl (cI, 4, .inl kR)), (okP, .inl (cI, 4, .inl kP)), (okQ, .inl (cI, 4, .inl kQ)), (oli, .inl (cI, 1320, .inl li))]) (wf := [(oM, .inr (5, [.int mth, .int mpl, .ref obd, .int msd, .int mrt, .int mps, .int mqt, .int mmd, .ref opa, .ref opS, .ref opR, .ref opG, .ref opP, .ref opQ, .ref okp, .ref okS, .ref okR, .ref okP, .ref okQ, .ref oli])), (obd, .inl (cI, 64, .inl bd)), (opa, .inl (cI, 9664, .inl pa)), (opS, .inl (cI, 151, .inl pS)), (opR, .inl (cI, 151, .inl pR)), (opG, .inl (cI, 151, .inl pG)), (opP, .inl (cI, 151, .inl pP)), (opQ, .inl (cI, 151, .inl pQ)), (okp, .inl (cI, 256, .inl kp)), (okS, .inl (cI, 4, .inl kS)), (okR, .inl (cI, 4, .inl kR)), (okP, .inl (cI, 4, .inl kP)), (okQ, .inl (cI, 4, .inl kQ)), (oli, .inl (cI, 1320, .inl li))]) ⟨hx, hb, hml, hown, hts⟩ (ct_M_kindOf l dC dI cI cL cR (bd x3.toNatClampNeg) hy9004) mm_222 mm_223 mm_221 mm_211 hd_M_kindOf (by decide) qq_00 hP hD hK hS hA hT hN [] [0, 1, 2, 3, 4, 5, 6, 7, 8, 9, 10, 11, 12, 13] [0, 1, 2, 3, 4, 5, 6, 7, 8, 9, 10, 11, 12, 13] rfl rfl rfl (by decide) rfl hl.1 rfl (Nat.le_of_ble_eq_true rfl) dd_M_collect_42 (fun H locs hP hD hS => ?_)
              refine W.eq (g2 := F0 m 45 ls [.int r9004]) rfl ?_
              refine lv_iconst (v := 1) hx hb dd_M_collect_45 (by decide) ?_
              refine lv_icmp_ne (tgt := 67) hx hb dd_M_collect_46 (by decide) (fun hc => ?_) (fun hc => ?_)
              · replace hf := qq_f hc hf
                exact hJ67 msd mrt mps mqt bd kp kS kR kP kQ li x2 x3 x4 _ _ _ (lv_sub hl [0, 1, 2, 3, 4] rfl) hP hD hS hf
              · replace hf := qq_t hc hf
                refine lv_iload hx hb dd_M_collect_49 (lv_at hl 4 rfl) ?_
                refine lv_bipush (v := 8) hx hb dd_M_collect_51 (by decide) ?_
                refine lv_icmp_lt (tgt := 63) hx hb dd_M_collect_53 (by decide) (fun hc => ?_) (fun hc => ?_)
                · replace hf := qq_t hc hf
                  exact hJ63 msd mrt mps mqt bd kp kS kR kP kQ li x2 x3 x4 _ _ _ (lv_sub hl [0, 1, 2, 3, 4] rfl) hP hD hS hf
                · replace hf := qq_f hc hf
                  refine lv_iload hx hb dd_M_collect_56 (lv_at hl 4 rfl) ?_
                  refine lv_bipush (v := 55) hx hb dd_M_collect_58 (by decide) ?_
                  refine lv_icmp_le (tgt := 67) hx hb dd_M_collect_60 (by decide) (fun hc => ?_) (fun hc => ?_)
                  · replace hf := qq_t hc hf
                    exact hJ67 msd mrt mps mqt bd kp kS kR kP kQ li x2 x3 x4 _ _ _ (lv_sub hl [0, 1, 2, 3, 4] rfl) hP hD hS hf
                  · replace hf := qq_f hc hf
                    exact hJ63 msd mrt mps mqt bd kp kS kR kP kQ li x2 x3 x4 _ _ _ (lv_sub hl [0, 1, 2, 3, 4] rfl) hP hD hS hf
      intro msd mrt mps mqt bd kp kS kR kP kQ li x2 x3 H locs ls hl hP hD hS hf
      rw [lo_M_collect_4_s] at hf
      refine lv_iload_n hx hb dd_M_collect_4 rfl (lv_at hl 3 rfl) ?_
      refine lv_bipush (v := 64) hx hb dd_M_collect_5 (by decide) ?_
      refine lv_icmp_ge (tgt := 156) hx hb dd_M_collect_7 (by decide) (fun hc => ?_) (fun hc => ?_)
      · replace hf := qq_t hc hf
        refine lv_iload_n hx hb dd_M_collect_156 rfl (lv_at hl 2 rfl) ?_
        cases hf
        exact qq_iret hx hb hr hlocks hQ hP hD hK hS dd_M_collect_157
      · replace hf := qq_f hc hf
        refine lv_iconst (v := 0) hx hb dd_M_collect_10 (by decide) ?_
        refine lv_istore (lv' := [(4, .int 0), (0, .ref oM), (1, .int a1), (2, .int x2), (3, .int x3)]) hx hb dd_M_collect_11 hl (by decide) rfl (fun ls hl => ?_)
        exact hL13 qq_FU msd mrt mps mqt bd kp kS kR kP kQ li x2 x3 0 _ _ _ (lv_sub hl [1, 2, 3, 4, 0] rfl) hP hD hS hf
  rw [fn_M_collect] at hf
  refine lv_iconst (v := 0) hx hb dd_M_collect_0 (by decide) ?_
  refine lv_istore_n (lv' := [(2, .int 0), (0, .ref oM), (1, .int a1)]) hx hb dd_M_collect_1 rfl hl (by decide) rfl (fun ls hl => ?_)
  refine lv_iconst (v := 0) hx hb dd_M_collect_2 (by decide) ?_
  refine lv_istore_n (lv' := [(3, .int 0), (2, .int 0), (0, .ref oM), (1, .int a1)]) hx hb dd_M_collect_3 rfl hl (by decide) rfl (fun ls hl => ?_)
  exact hL4 qq_FU msd mrt mps mqt bd kp kS kR kP kQ li 0 0 _ _ _ (lv_sub hl [2, 3, 1, 0] rfl) hP hD hS hf
theorem dd_M_make_0 : decode bb_M_make 0 = .ok (.aload_n 0, 1) := by decide +kernel
theorem dd_M_make_1 : decode bb_M_make 1 = .ok (.iload_n 2, 1) := by decide +kernel
theorem dd_M_make_2 : decode bb_M_make 2 = .ok (.invokevirtual 124, 3) := by decide +kernel
theorem dd_M_make_5 : decode bb_M_make 5 = .ok (.aload_n 0, 1) := by decide +kernel
theorem dd_M_make_6 : decode bb_M_make 6 = .ok (.iload_n 1, 1) := by decide +kernel
theorem dd_M_make_7 : decode bb_M_make 7 = .ok (.bipush 63, 2) := by decide +kernel
theorem dd_M_make_9 : decode bb_M_make 9 = .ok (.iand, 1) := by decide +kernel
theorem dd_M_make_10 : decode bb_M_make 10 = .ok (.iload_n 1, 1) := by decide +kernel
theorem dd_M_make_11 : decode bb_M_make 11 = .ok (.bipush 6, 2) := by decide +kernel
theorem dd_M_make_13 : decode bb_M_make 13 = .ok (.ishr, 1) := by decide +kernel
theorem dd_M_make_14 : decode bb_M_make 14 = .ok (.bipush 63, 2) := by decide +kernel
theorem dd_M_make_16 : decode bb_M_make 16 = .ok (.iand, 1) := by decide +kernel
theorem dd_M_make_17 : decode bb_M_make 17 = .ok (.iload_n 1, 1) := by decide +kernel
theorem dd_M_make_18 : decode bb_M_make 18 = .ok (.bipush 12, 2) := by decide +kernel
theorem dd_M_make_20 : decode bb_M_make 20 = .ok (.ishr, 1) := by decide +kernel
theorem dd_M_make_21 : decode bb_M_make 21 = .ok (.invokevirtual 128, 3) := by decide +kernel
theorem dd_M_make_24 : decode bb_M_make 24 = .ok (.return_, 1) := by decide +kernel
abbrev ty_M_make : Type := Int32 × Int32 × Int32 × Int32 × (Nat → Int32) × (Nat → Int32) × (Nat → Int32) × (Nat → Int32) × (Nat → Int32) × (Nat → Int32)
noncomputable def fn_M_make (msd : Int32) (mrt : Int32) (mps : Int32) (mqt : Int32) (bd : Nat → Int32) (kp : Nat → Int32) (kS : Nat → Int32) (kR : Nat → Int32) (kP : Nat → Int32) (kQ : Nat → Int32) (a1 : Int32) (a2 : Int32) : Option ty_M_make := (fn_M_keep msd mrt mps mqt bd kp kS kR kP kQ a2).bind fun (kp_1, kS_2, kR_3, kP_4, kQ_5) => (fn_M_go msd mrt mps mqt bd (a1 &&& 63) ((a1 >>> (6 &&& 31)) &&& 63) (a1 >>> (12 &&& 31))).bind fun (msd_6, mrt_7, mps_8, mqt_9, bd_10) => some (msd_6, mrt_7, mps_8, mqt_9, bd_10, kp_1, kS_2, kR_3, kP_4, kQ_5)
abbrev rm_M_make : Room := { frames := 2, cells := 0, slots := 0, locals := 47 }
set_option maxHeartbeats 4000000 in
set_option maxRecDepth 100000 in
theorem ct_M_make (l : Launch) (dC : Nat → ClassId) (dI : Nat → Nat → Nat) (cI cL cR : ClassId) (oM obd opa opS opR opG opP opQ okp okS okR okP okQ oli : Nat) (mth : Int32) (mpl : Int32) (msd : Int32) (mrt : Int32) (mps : Int32) (mqt : Int32) (mmd : Int32) (bd : Nat → Int32) (pa : Nat → Int32) (pS : Nat → Int32) (pR : Nat → Int32) (pG : Nat → Int32) (pP : Nat → Int32) (pQ : Nat → Int32) (kp : Nat → Int32) (kS : Nat → Int32) (kR : Nat → Int32) (kP : Nat → Int32) (kQ : Nat → Int32) (li : Nat → Int32) (a1 : Int32) (a2 : Int32) {msd' : Int32} {mrt' : Int32} {mps' : Int32} {mqt' : Int32} {bd' : Nat → Int32} {kp' : Nat → Int32} {kS' : Nat → Int32} {kR' : Nat → Int32} {kP' : Nat → Int32} {kQ' : Nat → Int32} (hf : fn_M_make msd mrt mps mqt bd kp kS kR kP kQ a1 a2 = some (msd', mrt', mps', mqt', bd', kp', kS', kR', kP', kQ')) : qq_det l yy_M_make (ww_of yy_M_make bb_M_make 3 none) rm_M_make (dC, dI) (qq_ty cI cL cR) [.ref oM, .int a1, .int a2] [(oM, .inr (5, [.int mth, .int mpl, .ref obd, .int msd, .int mrt, .int mps, .int mqt, .int mmd, .ref opa, .ref opS, .ref opR, .ref opG, .ref opP, .ref opQ, .ref okp, .ref okS, .ref okR, .ref okP, .ref okQ, .ref oli])), (obd, .inl (cI, 64, .inl bd)), (opa, .inl (cI, 9664, .inl pa)), (opS, .inl (cI, 151, .inl pS)), (opR, .inl (cI, 151, .inl pR)), (opG, .inl (cI, 151, .inl pG)), (opP, .inl (cI, 151, .inl pP)), (opQ, .inl (cI, 151, .inl pQ)), (okp, .inl (cI, 256, .inl kp)), (okS, .inl (cI, 4, .inl kS)), (okR, .inl (cI, 4, .inl kR)), (okP, .inl (cI, 4, .inl kP)), (okQ, .inl (cI, 4, .inl kQ)), (oli, .inl (cI, 1320, .inl li))] none [(oM, .inr (5, [.int mth, .int mpl, .ref obd, .int msd', .int mrt', .int mps', .int mqt', .int mmd, .ref opa, .ref opS, .ref opR, .ref opG, .ref opP, .ref opQ, .ref okp, .ref okS, .ref okR, .ref okP, .ref okQ, .ref oli])), (obd, .inl (cI, 64, .inl bd')), (opa, .inl (cI, 9664, .inl pa)), (opS, .inl (cI, 151, .inl pS)), (opR, .inl (cI, 151, .inl pR)), (opG, .inl (cI, 151, .inl pG)), (opP, .inl (cI, 151, .inl pP)), (opQ, .inl (cI, 151, .inl pQ)), (okp, .inl (cI, 256, .inl kp')), (okS, .inl (cI, 4, .inl kS')), (okR, .inl (cI, 4, .inl kR')), (okP, .inl (cI, 4, .inl kP')), (okQ, .inl (cI, 4, .inl kQ')), (oli, .inl (cI, 1320, .inl li))] := by
  refine qq_of (own := RR_M) (by decide) rfl (Nat.le_of_ble_eq_true rfl) ?_
  intro p e s m below meth c A Q ls hx hb hml hr hlocks hown hts hK hA hT hN hP hD hS hl hQ
  have hl : lv_has ls 3 [(0, .ref oM), (1, .int a1), (2, .int a2)] := hl
  rw [fn_M_make] at hf
  refine lv_aload_n hx hb dd_M_make_0 rfl (lv_at hl 0 rfl) ?_
  refine lv_iload_n hx hb dd_M_make_1 rfl (lv_at hl 2 rfl) ?_
  obtain ⟨⟨kp_1, kS_2, kR_3, kP_4, kQ_5⟩, hy5, hf⟩ := qq_bd hf
  dsimp only at hf
  refine qq_V (As := [.int a2]) (rest := []) (wr := []) (wf := [(oM, .inr (5, [.int mth, .int mpl, .ref obd, .int msd, .int mrt, .int mps, .int mqt, .int mmd, .ref opa, .ref opS, .ref opR, .ref opG, .ref opP, .ref opQ, .ref okp, .ref okS, .ref okR, .ref okP, .ref okQ, .ref oli])), (obd, .inl (cI, 64, .inl bd)), (opa, .inl (cI, 9664, .inl pa)), (opS, .inl (cI, 151, .inl pS)), (opR, .inl (cI, 151, .inl pR)), (opG, .inl (cI, 151, .inl pG)), (opP, .inl (cI, 151, .inl pP)), (opQ, .inl (cI, 151, .inl pQ)), (okp, .inl (cI, 256, .inl kp_1)), (okS, .inl (cI, 4, .inl kS_2)), (okR, .inl (cI, 4, .inl kR_3)), (okP, .inl (cI, 4, .inl kP_4)), (okQ, .inl (cI, 4, .inl kQ_5)), (oli, .inl (cI, 1320, .inl li))]) ⟨hx, hb, hml, hown, hts⟩ (ct_M_keep l dC dI cI cL cR oM obd opa opS opR opG opP opQ okp okS okR okP okQ oli mth mpl msd mrt mps mqt mmd bd pa pS pR pG pP pQ kp kS kR kP kQ li a2 hy5) mm_282 mm_283 mm_284 mm_281 mm_211 hd_M_keep (by decide) qq_00 hP hD hK hS hA hT hN (q0 := 0) (ci := 5) rfl rfl [0, 1, 2, 3, 4, 5, 6, 7, 8, 9, 10, 11, 12, 13] [] [0, 1, 2, 3, 4, 5, 6, 7, 8, 9, 10, 11, 12, 13] rfl rfl rfl (by decide) rfl hl.1 rfl (Nat.le_of_ble_eq_true rfl) dd_M_make_2 (fun H locs hP hD hS => ?_)
  refine W.eq (g2 := F0 m 5 ls []) rfl ?_
  refine lv_aload_n hx hb dd_M_make_5 rfl (lv_at hl 0 rfl) ?_
  refine lv_iload_n hx hb dd_M_make_6 rfl (lv_at hl 1 rfl) ?_
  refine lv_bipush (v := 63) hx hb dd_M_make_7 (by decide) ?_
  refine lv_iand hx hb dd_M_make_9 ?_
  refine lv_iload_n hx hb dd_M_make_10 rfl (lv_at hl 1 rfl) ?_
  refine lv_bipush (v := 6) hx hb dd_M_make_11 (by decide) ?_
  refine lv_ishr hx hb dd_M_make_13 ?_
  refine lv_bipush (v := 63) hx hb dd_M_make_14 (by decide) ?_
  refine lv_iand hx hb dd_M_make_16 ?_
  refine lv_iload_n hx hb dd_M_make_17 rfl (lv_at hl 1 rfl) ?_
  refine lv_bipush (v := 12) hx hb dd_M_make_18 (by decide) ?_
  refine lv_ishr hx hb dd_M_make_20 ?_
  obtain ⟨⟨msd_6, mrt_7, mps_8, mqt_9, bd_10⟩, hy10, hf⟩ := qq_bd hf
  dsimp only at hf
  refine qq_V (As := [.int (a1 &&& 63), .int ((a1 >>> (6 &&& 31)) &&& 63), .int (a1 >>> (12 &&& 31))]) (rest := []) (wr := []) (wf := [(oM, .inr (5, [.int mth, .int mpl, .ref obd, .int msd_6, .int mrt_7, .int mps_8, .int mqt_9, .int mmd, .ref opa, .ref opS, .ref opR, .ref opG, .ref opP, .ref opQ, .ref okp, .ref okS, .ref okR, .ref okP, .ref okQ, .ref oli])), (obd, .inl (cI, 64, .inl bd_10)), (opa, .inl (cI, 9664, .inl pa)), (opS, .inl (cI, 151, .inl pS)), (opR, .inl (cI, 151, .inl pR)), (opG, .inl (cI, 151, .inl pG)), (opP, .inl (cI, 151, .inl pP)), (opQ, .inl (cI, 151, .inl pQ)), (okp, .inl (cI, 256, .inl kp_1)), (okS, .inl (cI, 4, .inl kS_2)), (okR, .inl (cI, 4, .inl kR_3)), (okP, .inl (cI, 4, .inl kP_4)), (okQ, .inl (cI, 4, .inl kQ_5)), (oli, .inl (cI, 1320, .inl li))]) ⟨hx, hb, hml, hown, hts⟩ (ct_M_go l dC dI cI cL cR oM obd opa opS opR opG opP opQ okp okS okR okP okQ oli mth mpl msd mrt mps mqt mmd bd pa pS pR pG pP pQ kp_1 kS_2 kR_3 kP_4 kQ_5 li (a1 &&& 63) ((a1 >>> (6 &&& 31)) &&& 63) (a1 >>> (12 &&& 31)) hy10) mm_286 mm_287 mm_288 mm_285 mm_211 hd_M_go (by decide) qq_00 hP hD hK hS hA hT hN (q0 := 0) (ci := 5) rfl rfl [0, 1, 2, 3, 4, 5, 6, 7, 8, 9, 10, 11, 12, 13] [] [0, 1, 2, 3, 4, 5, 6, 7, 8, 9, 10, 11, 12, 13] rfl rfl rfl (by decide) rfl hl.1 rfl (Nat.le_of_ble_eq_true rfl) dd_M_make_21 (fun H locs hP hD hS => ?_)
  refine W.eq (g2 := F0 m 24 ls []) rfl ?_
  cases hf
  exact qq_vret hx hb hr hlocks hQ hP hD hK hS dd_M_make_24
