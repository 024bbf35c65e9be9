theorem dd_M_undo_0 : decode bb_M_undo 0 = .ok (.aload_n 0, 1) := by decide +kernel
theorem dd_M_undo_1 : decode bb_M_undo 1 = .ok (.aload_n 0, 1) := by decide +kernel
theorem dd_M_undo_2 : decode bb_M_undo 2 = .ok (.getfield 56, 3) := by decide +kernel
theorem dd_M_undo_5 : decode bb_M_undo 5 = .ok (.ifCond .eq 10, 3) := by decide +kernel
theorem dd_M_undo_8 : decode bb_M_undo 8 = .ok (.aload_n 0, 1) := by decide +kernel
theorem dd_M_undo_9 : decode bb_M_undo 9 = .ok (.getfield 161, 3) := by decide +kernel
theorem dd_M_undo_12 : decode bb_M_undo 12 = .ok (.ifCond .ne 7, 3) := by decide +kernel
theorem dd_M_undo_15 : decode bb_M_undo 15 = .ok (.iconst 1, 1) := by decide +kernel
theorem dd_M_undo_16 : decode bb_M_undo 16 = .ok (.goto 4, 3) := by decide +kernel
theorem dd_M_undo_19 : decode bb_M_undo 19 = .ok (.iconst 0, 1) := by decide +kernel
theorem dd_M_undo_20 : decode bb_M_undo 20 = .ok (.invokevirtual 155, 3) := by decide +kernel
theorem dd_M_undo_23 : decode bb_M_undo 23 = .ok (.ifCond .eq 5, 3) := by decide +kernel
theorem dd_M_undo_26 : decode bb_M_undo 26 = .ok (.iconst 0, 1) := by decide +kernel
theorem dd_M_undo_27 : decode bb_M_undo 27 = .ok (.ireturn, 1) := by decide +kernel
theorem dd_M_undo_28 : decode bb_M_undo 28 = .ok (.aload_n 0, 1) := by decide +kernel
theorem dd_M_undo_29 : decode bb_M_undo 29 = .ok (.dup, 1) := by decide +kernel
theorem dd_M_undo_30 : decode bb_M_undo 30 = .ok (.getfield 161, 3) := by decide +kernel
theorem dd_M_undo_33 : decode bb_M_undo 33 = .ok (.iconst 1, 1) := by decide +kernel
theorem dd_M_undo_34 : decode bb_M_undo 34 = .ok (.isub, 1) := by decide +kernel
theorem dd_M_undo_35 : decode bb_M_undo 35 = .ok (.putfield 161, 3) := by decide +kernel
theorem dd_M_undo_38 : decode bb_M_undo 38 = .ok (.iconst 0, 1) := by decide +kernel
theorem dd_M_undo_39 : decode bb_M_undo 39 = .ok (.istore_n 1, 1) := by decide +kernel
theorem dd_M_undo_40 : decode bb_M_undo 40 = .ok (.iload_n 1, 1) := by decide +kernel
theorem dd_M_undo_41 : decode bb_M_undo 41 = .ok (.bipush 64, 2) := by decide +kernel
theorem dd_M_undo_43 : decode bb_M_undo 43 = .ok (.if_icmp .ge 29, 3) := by decide +kernel
theorem dd_M_undo_46 : decode bb_M_undo 46 = .ok (.aload_n 0, 1) := by decide +kernel
theorem dd_M_undo_47 : decode bb_M_undo 47 = .ok (.getfield 7, 3) := by decide +kernel
theorem dd_M_undo_50 : decode bb_M_undo 50 = .ok (.iload_n 1, 1) := by decide +kernel
theorem dd_M_undo_51 : decode bb_M_undo 51 = .ok (.aload_n 0, 1) := by decide +kernel
theorem dd_M_undo_52 : decode bb_M_undo 52 = .ok (.getfield 17, 3) := by decide +kernel
theorem dd_M_undo_55 : decode bb_M_undo 55 = .ok (.bipush 64, 2) := by decide +kernel
theorem dd_M_undo_57 : decode bb_M_undo 57 = .ok (.aload_n 0, 1) := by decide +kernel
theorem dd_M_undo_58 : decode bb_M_undo 58 = .ok (.getfield 161, 3) := by decide +kernel
theorem dd_M_undo_61 : decode bb_M_undo 61 = .ok (.imul, 1) := by decide +kernel
theorem dd_M_undo_62 : decode bb_M_undo 62 = .ok (.iload_n 1, 1) := by decide +kernel
theorem dd_M_undo_63 : decode bb_M_undo 63 = .ok (.iadd, 1) := by decide +kernel
theorem dd_M_undo_64 : decode bb_M_undo 64 = .ok (.iaload, 1) := by decide +kernel
theorem dd_M_undo_65 : decode bb_M_undo 65 = .ok (.iastore, 1) := by decide +kernel
theorem dd_M_undo_66 : decode bb_M_undo 66 = .ok (.iinc 1 1, 3) := by decide +kernel
theorem dd_M_undo_69 : decode bb_M_undo 69 = .ok (.goto (-29), 3) := by decide +kernel
theorem dd_M_undo_72 : decode bb_M_undo 72 = .ok (.aload_n 0, 1) := by decide +kernel
theorem dd_M_undo_73 : decode bb_M_undo 73 = .ok (.aload_n 0, 1) := by decide +kernel
theorem dd_M_undo_74 : decode bb_M_undo 74 = .ok (.getfield 20, 3) := by decide +kernel
theorem dd_M_undo_77 : decode bb_M_undo 77 = .ok (.aload_n 0, 1) := by decide +kernel
theorem dd_M_undo_78 : decode bb_M_undo 78 = .ok (.getfield 161, 3) := by decide +kernel
theorem dd_M_undo_81 : decode bb_M_undo 81 = .ok (.iaload, 1) := by decide +kernel
theorem dd_M_undo_82 : decode bb_M_undo 82 = .ok (.putfield 95, 3) := by decide +kernel
theorem dd_M_undo_85 : decode bb_M_undo 85 = .ok (.aload_n 0, 1) := by decide +kernel
theorem dd_M_undo_86 : decode bb_M_undo 86 = .ok (.aload_n 0, 1) := by decide +kernel
theorem dd_M_undo_87 : decode bb_M_undo 87 = .ok (.getfield 23, 3) := by decide +kernel
theorem dd_M_undo_90 : decode bb_M_undo 90 = .ok (.aload_n 0, 1) := by decide +kernel
theorem dd_M_undo_91 : decode bb_M_undo 91 = .ok (.getfield 161, 3) := by decide +kernel
theorem dd_M_undo_94 : decode bb_M_undo 94 = .ok (.iaload, 1) := by decide +kernel
theorem dd_M_undo_95 : decode bb_M_undo 95 = .ok (.putfield 53, 3) := by decide +kernel
theorem dd_M_undo_98 : decode bb_M_undo 98 = .ok (.aload_n 0, 1) := by decide +kernel
theorem dd_M_undo_99 : decode bb_M_undo 99 = .ok (.aload_n 0, 1) := by decide +kernel
theorem dd_M_undo_100 : decode bb_M_undo 100 = .ok (.getfield 29, 3) := by decide +kernel
theorem dd_M_undo_103 : decode bb_M_undo 103 = .ok (.aload_n 0, 1) := by decide +kernel
theorem dd_M_undo_104 : decode bb_M_undo 104 = .ok (.getfield 161, 3) := by decide +kernel
theorem dd_M_undo_107 : decode bb_M_undo 107 = .ok (.iaload, 1) := by decide +kernel
theorem dd_M_undo_108 : decode bb_M_undo 108 = .ok (.putfield 13, 3) := by decide +kernel
theorem dd_M_undo_111 : decode bb_M_undo 111 = .ok (.aload_n 0, 1) := by decide +kernel
theorem dd_M_undo_112 : decode bb_M_undo 112 = .ok (.aload_n 0, 1) := by decide +kernel
theorem dd_M_undo_113 : decode bb_M_undo 113 = .ok (.getfield 32, 3) := by decide +kernel
theorem dd_M_undo_116 : decode bb_M_undo 116 = .ok (.aload_n 0, 1) := by decide +kernel
theorem dd_M_undo_117 : decode bb_M_undo 117 = .ok (.getfield 161, 3) := by decide +kernel
theorem dd_M_undo_120 : decode bb_M_undo 120 = .ok (.iaload, 1) := by decide +kernel
theorem dd_M_undo_121 : decode bb_M_undo 121 = .ok (.putfield 115, 3) := by decide +kernel
theorem dd_M_undo_124 : decode bb_M_undo 124 = .ok (.aload_n 0, 1) := by decide +kernel
theorem dd_M_undo_125 : decode bb_M_undo 125 = .ok (.getfield 161, 3) := by decide +kernel
theorem dd_M_undo_128 : decode bb_M_undo 128 = .ok (.ireturn, 1) := by decide +kernel
abbrev ty_M_undo : Type := Int32 × Int32 × Int32 × Int32 × Int32 × Int32 × Int32 × (Nat → Int32)
noncomputable def lo_M_undo_40 (mpl : Int32) (pa : Nat → Int32) (pS : Nat → Int32) (pR : Nat → Int32) (pP : Nat → Int32) (pQ : Nat → Int32) : Nat → Int32 → Int32 → Int32 → Int32 → Int32 → Int32 → (Nat → Int32) → Int32 → Option ty_M_undo
  | 0, _, _, _, _, _, _, _, _ => none
  | n + 1, mth, msd, mrt, mps, mqt, mmd, bd, x1 => if 64 ≤ x1 then (qq_ck (qq_in mmd 151) <| qq_let (pS mmd.toNatClampNeg) fun v1002 => qq_ck (qq_in mmd 151) <| qq_let (pR mmd.toNatClampNeg) fun v1004 => qq_ck (qq_in mmd 151) <| qq_let (pP mmd.toNatClampNeg) fun v1006 => qq_ck (qq_in mmd 151) <| qq_let (pQ mmd.toNatClampNeg) fun v1008 => some (mmd, mth, v1002, v1004, v1006, v1008, mmd, bd)) else (qq_ck (qq_in ((64 * mmd) + x1) 9664) <| qq_ck (qq_in x1 64) <| qq_let (upd bd x1.toNatClampNeg (pa ((64 * mmd) + x1).toNatClampNeg)) fun bd_1011 => qq_let (x1 + 1) fun v1012 => (lo_M_undo_40 mpl pa pS pR pP pQ n) mth msd mrt mps mqt mmd bd_1011 v1012)
theorem lo_M_undo_40_z (mpl : Int32) (pa : Nat → Int32) (pS : Nat → Int32) (pR : Nat → Int32) (pP : Nat → Int32) (pQ : Nat → Int32) (mth : Int32) (msd : Int32) (mrt : Int32) (mps : Int32) (mqt : Int32) (mmd : Int32) (bd : Nat → Int32) (x1 : Int32) : lo_M_undo_40 mpl pa pS pR pP pQ 0 mth msd mrt mps mqt mmd bd x1 = none := rfl
theorem lo_M_undo_40_s (mpl : Int32) (pa : Nat → Int32) (pS : Nat → Int32) (pR : Nat → Int32) (pP : Nat → Int32) (pQ : Nat → Int32) (mth : Int32) (msd : Int32) (mrt : Int32) (mps : Int32) (mqt : Int32) (mmd : Int32) (bd : Nat → Int32) (x1 : Int32) (n : Nat) : lo_M_undo_40 mpl pa pS pR pP pQ (n + 1) mth msd mrt mps mqt mmd bd x1 = (if 64 ≤ x1 then (qq_ck (qq_in mmd 151) <| qq_let (pS mmd.toNatClampNeg) fun v1002 => qq_ck (qq_in mmd 151) <| qq_let (pR mmd.toNatClampNeg) fun v1004 => qq_ck (qq_in mmd 151) <| qq_let (pP mmd.toNatClampNeg) fun v1006 => qq_ck (qq_in mmd 151) <| qq_let (pQ mmd.toNatClampNeg) fun v1008 => some (mmd, mth, v1002, v1004, v1006, v1008, mmd, bd)) else (qq_ck (qq_in ((64 * mmd) + x1) 9664) <| qq_ck (qq_in x1 64) <| qq_let (upd bd x1.toNatClampNeg (pa ((64 * mmd) + x1).toNatClampNeg)) fun bd_1011 => qq_let (x1 + 1) fun v1012 => (lo_M_undo_40 mpl pa pS pR pP pQ n) mth msd mrt mps mqt mmd bd_1011 v1012)) := rfl
noncomputable def bk_M_undo_20 (mpl : Int32) (pa : Nat → Int32) (pS : Nat → Int32) (pR : Nat → Int32) (pP : Nat → Int32) (pQ : Nat → Int32) (mth : Int32) (msd : Int32) (mrt : Int32) (mps : Int32) (mqt : Int32) (mmd : Int32) (bd : Nat → Int32) (s1 : Int32) : Option ty_M_undo := (fn_M_refused mth s1).bind fun (r2001, mth_2002) => if r2001 = 0 then (qq_let (mmd - 1) fun v2003 => lo_M_undo_40 mpl pa pS pR pP pQ qq_FU mth_2002 msd mrt mps mqt v2003 bd 0) else (some (0, mth_2002, msd, mrt, mps, mqt, mmd, bd))
noncomputable def bk_M_undo_15 (mpl : Int32) (pa : Nat → Int32) (pS : Nat → Int32) (pR : Nat → Int32) (pP : Nat → Int32) (pQ : Nat → Int32) (mth : Int32) (msd : Int32) (mrt : Int32) (mps : Int32) (mqt : Int32) (mmd : Int32) (bd : Nat → Int32) : Option ty_M_undo := bk_M_undo_20 mpl pa pS pR pP pQ mth msd mrt mps mqt mmd bd 1
noncomputable def fn_M_undo (mth : Int32) (mpl : Int32) (msd : Int32) (mrt : Int32) (mps : Int32) (mqt : Int32) (mmd : Int32) (bd : Nat → Int32) (pa : Nat → Int32) (pS : Nat → Int32) (pR : Nat → Int32) (pP : Nat → Int32) (pQ : Nat → Int32) : Option ty_M_undo := if mpl = 0 then (bk_M_undo_15 mpl pa pS pR pP pQ mth msd mrt mps mqt mmd bd) else (if mmd = 0 then (bk_M_undo_15 mpl pa pS pR pP pQ mth msd mrt mps mqt mmd bd) else (bk_M_undo_20 mpl pa pS pR pP pQ mth msd mrt mps mqt mmd bd 0))
abbrev rm_M_undo : Room := { frames := 1, cells := 0, slots := 0, locals := 21 }
set_option maxHeartbeats 4000000 in
set_option maxRecDepth 100000 in
theorem ct_M_undo (l : Launch) (dC : Nat → ClassId) (dI : Nat → Nat → Nat) (cI cL cR : ClassId) (oM obd opa opS opR opG opP opQ okp okS okR okP okQ oli : Nat) (mth : Int32) (mpl : Int32) (msd : Int32) (mrt : Int32) (mps : Int32) (mqt : Int32) (mmd : Int32) (bd : Nat → Int32) (pa : Nat → Int32) (pS : Nat → Int32) (pR : Nat → Int32) (pG : Nat → Int32) (pP : Nat → Int32) (pQ : Nat → Int32) (kp : Nat → Int32) (kS : Nat → Int32) (kR : Nat → Int32) (kP : Nat → Int32) (kQ : Nat → Int32) (li : Nat → Int32) {rr : Int32} {mth' : Int32} {msd' : Int32} {mrt' : Int32} {mps' : Int32} {mqt' : Int32} {mmd' : Int32} {bd' : Nat → Int32} (hf : fn_M_undo mth mpl msd mrt mps mqt mmd bd pa pS pR pP pQ = some (rr, mth', msd', mrt', mps', mqt', mmd', bd')) : qq_det l yy_M_undo (ww_of yy_M_undo bb_M_undo 2 (some .int)) rm_M_undo (dC, dI) (qq_ty cI cL cR) [.ref oM] [(oM, .inr (5, [.int mth, .int mpl, .ref obd, .int msd, .int mrt, .int mps, .int mqt, .int mmd, .ref opa, .ref opS, .ref opR, .ref opG, .ref opP, .ref opQ, .ref okp, .ref okS, .ref okR, .ref okP, .ref okQ, .ref oli])), (obd, .inl (cI, 64, .inl bd)), (opa, .inl (cI, 9664, .inl pa)), (opS, .inl (cI, 151, .inl pS)), (opR, .inl (cI, 151, .inl pR)), (opG, .inl (cI, 151, .inl pG)), (opP, .inl (cI, 151, .inl pP)), (opQ, .inl (cI, 151, .inl pQ)), (okp, .inl (cI, 256, .inl kp)), (okS, .inl (cI, 4, .inl kS)), (okR, .inl (cI, 4, .inl kR)), (okP, .inl (cI, 4, .inl kP)), (okQ, .inl (cI, 4, .inl kQ)), (oli, .inl (cI, 1320, .inl li))] (some (.int rr)) [(oM, .inr (5, [.int mth', .int mpl, .ref obd, .int msd', .int mrt', .int mps', .int mqt', .int mmd', .ref opa, .ref opS, .ref opR, .ref opG, .ref opP, .ref opQ, .ref okp, .ref okS, .ref okR, .ref okP, .ref okQ, .ref oli])), (obd, .inl (cI, 64, .inl bd')), (opa, .inl (cI, 9664, .inl pa)), (opS, .inl (cI, 151, .inl pS)), (opR, .inl (cI, 151, .inl pR)), (opG, .inl (cI, 151, .inl pG)), (opP, .inl (cI, 151, .inl pP)), (opQ, .inl (cI, 151, .inl pQ)), (okp, .inl (cI, 256, .inl kp)), (okS, .inl (cI, 4, .inl kS)), (okR, .inl (cI, 4, .inl kR)), (okP, .inl (cI, 4, .inl kP)), (okQ, .inl (cI, 4, .inl kQ)), (oli, .inl (cI, 1320, .inl li))] := by
  refine qq_of (own := RR_M) (by decide) rfl (Nat.le_of_ble_eq_true rfl) ?_
  intro p e s m below meth c A Q ls hx hb hml hr hlocks hown hts hK hA hT hN hP hD hS hl hQ
  have hl : lv_has ls 2 [(0, .ref oM)] := hl
  have hL40 : ∀ (n40 : Nat) (mth : Int32) (msd : Int32) (mrt : Int32) (mps : Int32) (mqt : Int32) (mmd : Int32) (bd : Nat → Int32) (x1 : Int32) (H : Heap) (locs : List Loc) (ls : Array Slot), lv_has ls 2 [(0, .ref oM), (1, .int x1)] → va_P (dC, dI) classes [(oM, .inr (5, [.int mth, .int mpl, .ref obd, .int msd, .int mrt, .int mps, .int mqt, .int mmd, .ref opa, .ref opS, .ref opR, .ref opG, .ref opP, .ref opQ, .ref okp, .ref okS, .ref okR, .ref okP, .ref okQ, .ref oli])), (obd, .inl (cI, 64, .inl bd)), (opa, .inl (cI, 9664, .inl pa)), (opS, .inl (cI, 151, .inl pS)), (opR, .inl (cI, 151, .inl pR)), (opG, .inl (cI, 151, .inl pG)), (opP, .inl (cI, 151, .inl pP)), (opQ, .inl (cI, 151, .inl pQ)), (okp, .inl (cI, 256, .inl kp)), (okS, .inl (cI, 4, .inl kS)), (okR, .inl (cI, 4, .inl kR)), (okP, .inl (cI, 4, .inl kP)), (okQ, .inl (cI, 4, .inl kQ)), (oli, .inl (cI, 1320, .inl li))] H → va_D A [(oM, .inr (5, [.int mth, .int mpl, .ref obd, .int msd, .int mrt, .int mps, .int mqt, .int mmd, .ref opa, .ref opS, .ref opR, .ref opG, .ref opP, .ref opQ, .ref okp, .ref okS, .ref okR, .ref okP, .ref okQ, .ref oli])), (obd, .inl (cI, 64, .inl bd)), (opa, .inl (cI, 9664, .inl pa)), (opS, .inl (cI, 151, .inl pS)), (opR, .inl (cI, 151, .inl pR)), (opG, .inl (cI, 151, .inl pG)), (opP, .inl (cI, 151, .inl pP)), (opQ, .inl (cI, 151, .inl pQ)), (okp, .inl (cI, 256, .inl kp)), (okS, .inl (cI, 4, .inl kS)), (okR, .inl (cI, 4, .inl kR)), (okP, .inl (cI, 4, .inl kP)), (okQ, .inl (cI, 4, .inl kQ)), (oli, .inl (cI, 1320, .inl li))] → va_S A s.heap H locs → lo_M_undo_40 mpl pa pS pR pP pQ n40 mth msd mrt mps mqt mmd bd x1 = some (rr, mth', msd', mrt', mps', mqt', mmd', bd') → W p l e rm_M_undo s m ([.ref oM] : List Value).toArray below meth c H locs 0 0 Q (F0 m 40 ls []) := by
    intro n40
    induction n40 with
    | zero => exact fun mth msd mrt mps mqt mmd bd x1 H locs ls hl hP hD hS hf => absurd hf (by rw [lo_M_undo_40_z]; exact fun h => by cases h)
    | succ n40 ih40 =>
      intro mth msd mrt mps mqt mmd bd x1 H locs ls hl hP hD hS hf
      rw [lo_M_undo_40_s] at hf
      refine lv_iload_n hx hb dd_M_undo_40 rfl (lv_at hl 1 rfl) ?_
      refine lv_bipush (v := 64) hx hb dd_M_undo_41 (by decide) ?_
      refine lv_icmp_ge (tgt := 72) hx hb dd_M_undo_43 (by decide) (fun hc => ?_) (fun hc => ?_)
      · replace hf := qq_t hc hf
        refine lv_aload_n hx hb dd_M_undo_72 rfl (lv_at hl 0 rfl) ?_
        refine lv_aload_n hx hb dd_M_undo_73 rfl (lv_at hl 0 rfl) ?_
        refine va_get (D := (dC, dI)) (ci := 5) (v := .ref opS) (C := RR_M) (T := FF_M) (N := 20) hx hb hts uu_M hown hK hP 0 rfl rfl 9 (by decide) (hts _ mm_315) (fun _ h9 => h9) rfl dd_M_undo_74 ?_
        refine lv_aload_n hx hb dd_M_undo_77 rfl (lv_at hl 0 rfl) ?_
        refine va_get (D := (dC, dI)) (ci := 5) (v := .int mmd) (C := RR_M) (T := FF_M) (N := 20) hx hb hts uu_M hown hK hP 0 rfl rfl 7 (by decide) (hts _ mm_316) (fun _ h9 => h9) rfl dd_M_undo_78 ?_
        obtain ⟨hi1001, hf⟩ := qq_ckE hf
        refine va_iald (D := (dC, dI)) (f := pS) (n := 151) (cA := cI) hx hb hK hP 3 0 rfl rfl (qq_inE hi1001) dd_M_undo_81 ?_
        refine lv_topi (fun v1002 ev1002 => ?_)
        replace hf := qq_lt ev1002 hf
        refine va_put (D := (dC, dI)) (ci := 5) (v := .int v1002) (ty := .int) (C := RR_M) (T := FF_M) (N := 20) hx hb hts uu_M tt_M tt_M_ok nn_M hown hK hP hD hS 0 rfl rfl 3 (by decide) (hts _ mm_228) (fun _ h9 => h9) rfl (by decide +kernel) rfl rfl (Nat.le_of_ble_eq_true rfl) dd_M_undo_82 (fun H locs hP hD hS => ?_)
        have hP : va_P (dC, dI) classes [(oM, .inr (5, [.int mth, .int mpl, .ref obd, .int v1002, .int mrt, .int mps, .int mqt, .int mmd, .ref opa, .ref opS, .ref opR, .ref opG, .ref opP, .ref opQ, .ref okp, .ref okS, .ref okR, .ref okP, .ref okQ, .ref oli])), (obd, .inl (cI, 64, .inl bd)), (opa, .inl (cI, 9664, .inl pa)), (opS, .inl (cI, 151, .inl pS)), (opR, .inl (cI, 151, .inl pR)), (opG, .inl (cI, 151, .inl pG)), (opP, .inl (cI, 151, .inl pP)), (opQ, .inl (cI, 151, .inl pQ)), (okp, .inl (cI, 256, .inl kp)), (okS, .inl (cI, 4, .inl kS)), (okR, .inl (cI, 4, .inl kR)), (okP, .inl (cI, 4, .inl kP)), (okQ, .inl (cI, 4, .inl kQ)), (oli, .inl (cI, 1320, .inl li))] H := hP
        have hD : va_D A [(oM, .inr (5, [.int mth, .int mpl, .ref obd, .int v1002, .int mrt, .int mps, .int mqt, .int mmd, .ref opa, .ref opS, .ref opR, .ref opG, .ref opP, .ref opQ, .ref okp, .ref okS, .ref okR, .ref okP, .ref okQ, .ref oli])), (obd, .inl (cI, 64, .inl bd)), (opa, .inl (cI, 9664, .inl pa)), (opS, .inl (cI, 151, .inl pS)), (opR, .inl (cI, 151, .inl pR)), (opG, .inl (cI, 151, .inl pG)), (opP, .inl (cI, 151, .inl pP)), (opQ, .inl (cI, 151, .inl pQ)), (okp, .inl (cI, 256, .inl kp)), (okS, .inl (cI, 4, .inl kS)), (okR, .inl (cI, 4, .inl kR)), (okP, .inl (cI, 4, .inl kP)), (okQ, .inl (cI, 4, .inl kQ)), (oli, .inl (cI, 1320, .inl li))] := hD
        refine lv_aload_n hx hb dd_M_undo_85 rfl (lv_at hl 0 rfl) ?_
        refine lv_aload_n hx hb dd_M_undo_86 rfl (lv_at hl 0 rfl) ?_
        refine va_get (D := (dC, dI)) (ci := 5) (v := .ref opR) (C := RR_M) (T := FF_M) (N := 20) hx hb hts uu_M hown hK hP 0 rfl rfl 10 (by decide) (hts _ mm_317) (fun _ h9 => h9) rfl dd_M_undo_87 ?_
        refine lv_aload_n hx hb dd_M_undo_90 rfl (lv_at hl 0 rfl) ?_
        refine va_get (D := (dC, dI)) (ci := 5) (v := .int mmd) (C := RR_M) (T := FF_M) (N := 20) hx hb hts uu_M hown hK hP 0 rfl rfl 7 (by decide) (hts _ mm_316) (fun _ h9 => h9) rfl dd_M_undo_91 ?_
        obtain ⟨hi1003, hf⟩ := qq_ckE hf
        refine va_iald (D := (dC, dI)) (f := pR) (n := 151) (cA := cI) hx hb hK hP 4 0 rfl rfl (qq_inE hi1003) dd_M_undo_94 ?_
        refine lv_topi (fun v1004 ev1004 => ?_)
        replace hf := qq_lt ev1004 hf
        refine va_put (D := (dC, dI)) (ci := 5) (v := .int v1004) (ty := .int) (C := RR_M) (T := FF_M) (N := 20) hx hb hts uu_M tt_M tt_M_ok nn_M hown hK hP hD hS 0 rfl rfl 4 (by decide) (hts _ mm_255) (fun _ h9 => h9) rfl (by decide +kernel) rfl rfl (Nat.le_of_ble_eq_true rfl) dd_M_undo_95 (fun H locs hP hD hS => ?_)
        have hP : va_P (dC, dI) classes [(oM, .inr (5, [.int mth, .int mpl, .ref obd, .int v1002, .int v1004, .int mps, .int mqt, .int mmd, .ref opa, .ref opS, .ref opR, .ref opG, .ref opP, .ref opQ, .ref okp, .ref okS, .ref okR, .ref okP, .ref okQ, .ref oli])), (obd, .inl (cI, 64, .inl bd)), (opa, .inl (cI, 9664, .inl pa)), (opS, .inl (cI, 151, .inl pS)), (opR, .inl (cI, 151, .inl pR)), (opG, .inl (cI, 151, .inl pG)), (opP, .inl (cI, 151, .inl pP)), (opQ, .inl (cI, 151, .inl pQ)), (okp, .inl (cI, 256, .inl kp)), (okS, .inl (cI, 4, .inl kS)), (okR, .inl (cI, 4, .inl kR)), (okP, .inl (cI, 4, .inl kP)), (okQ, .inl (cI, 4, .inl kQ)), (oli, .inl (cI, 1320, .inl li))] H := hP
        have hD : va_D A [(oM, .inr (5, [.int mth, .int mpl, .ref obd, .int v1002, .int v1004, .int mps, .int mqt, .int mmd, .ref opa, .ref opS, .ref opR, .ref opG, .ref opP, .ref opQ, .ref okp, .ref okS, .ref okR, .ref okP, .ref okQ, .ref oli])), (obd, .inl (cI, 64, .inl bd)), (opa, .inl (cI, 9664, .inl pa)), (opS, .inl (cI, 151, .inl pS)), (opR, .inl (cI, 151, .inl pR)), (opG, .inl (cI, 151, .inl pG)), (opP, .inl (cI, 151, .inl pP)), (opQ, .inl (cI, 151, .inl pQ)), (okp, .inl (cI, 256, .inl kp)), (okS, .inl (cI, 4, .inl kS)), (okR, .inl (cI, 4, .inl kR)), (okP, .inl (cI, 4, .inl kP)), (okQ, .inl (cI, 4, .inl kQ)), (oli, .inl (cI, 1320, .inl li))] := hD
        refine lv_aload_n hx hb dd_M_undo_98 rfl (lv_at hl 0 rfl) ?_
        refine lv_aload_n hx hb dd_M_undo_99 rfl (lv_at hl 0 rfl) ?_
        refine va_get (D := (dC, dI)) (ci := 5) (v := .ref opP) (C := RR_M) (T := FF_M) (N := 20) hx hb hts uu_M hown hK hP 0 rfl rfl 12 (by decide) (hts _ mm_323) (fun _ h9 => h9) rfl dd_M_undo_100 ?_
        refine lv_aload_n hx hb dd_M_undo_103 rfl (lv_at hl 0 rfl) ?_
        refine va_get (D := (dC, dI)) (ci := 5) (v := .int mmd) (C := RR_M) (T := FF_M) (N := 20) hx hb hts uu_M hown hK hP 0 rfl rfl 7 (by decide) (hts _ mm_316) (fun _ h9 => h9) rfl dd_M_undo_104 ?_
        obtain ⟨hi1005, hf⟩ := qq_ckE hf
        refine va_iald (D := (dC, dI)) (f := pP) (n := 151) (cA := cI) hx hb hK hP 6 0 rfl rfl (qq_inE hi1005) dd_M_undo_107 ?_
        refine lv_topi (fun v1006 ev1006 => ?_)
        replace hf := qq_lt ev1006 hf
        refine va_put (D := (dC, dI)) (ci := 5) (v := .int v1006) (ty := .int) (C := RR_M) (T := FF_M) (N := 20) hx hb hts uu_M tt_M tt_M_ok nn_M hown hK hP hD hS 0 rfl rfl 5 (by decide) (hts _ mm_227) (fun _ h9 => h9) rfl (by decide +kernel) rfl rfl (Nat.le_of_ble_eq_true rfl) dd_M_undo_108 (fun H locs hP hD hS => ?_)
        have hP : va_P (dC, dI) classes [(oM, .inr (5, [.int mth, .int mpl, .ref obd, .int v1002, .int v1004, .int v1006, .int mqt, .int mmd, .ref opa, .ref opS, .ref opR, .ref opG, .ref opP, .ref opQ, .ref okp, .ref okS, .ref okR, .ref okP, .ref okQ, .ref oli])), (obd, .inl (cI, 64, .inl bd)), (opa, .inl (cI, 9664, .inl pa)), (opS, .inl (cI, 151, .inl pS)), (opR, .inl (cI, 151, .inl pR)), (opG, .inl (cI, 151, .inl pG)), (opP, .inl (cI, 151, .inl pP)), (opQ, .inl (cI, 151, .inl pQ)), (okp, .inl (cI, 256, .inl kp)), (okS, .inl (cI, 4, .inl kS)), (okR, .inl (cI, 4, .inl kR)), (okP, .inl (cI, 4, .inl kP)), (okQ, .inl (cI, 4, .inl kQ)), (oli, .inl (cI, 1320, .inl li))] H := hP
        have hD : va_D A [(oM, .inr (5, [.int mth, .int mpl, .ref obd, .int v1002, .int v1004, .int v1006, .int mqt, .int mmd, .ref opa, .ref opS, .ref opR, .ref opG, .ref opP, .ref opQ, .ref okp, .ref okS, .ref okR, .ref okP, .ref okQ, .ref oli])), (obd, .inl (cI, 64, .inl bd)), (opa, .inl (cI, 9664, .inl pa)), (opS, .inl (cI, 151, .inl pS)), (opR, .inl (cI, 151, .inl pR)), (opG, .inl (cI, 151, .inl pG)), (opP, .inl (cI, 151, .inl pP)), (opQ, .inl (cI, 151, .inl pQ)), (okp, .inl (cI, 256, .inl kp)), (okS, .inl (cI, 4, .inl kS)), (okR, .inl (cI, 4, .inl kR)), (okP, .inl (cI, 4, .inl kP)), (okQ, .inl (cI, 4, .inl kQ)), (oli, .inl (cI, 1320, .inl li))] := hD
        refine lv_aload_n hx hb dd_M_undo_111 rfl (lv_at hl 0 rfl) ?_
        refine lv_aload_n hx hb dd_M_undo_112 rfl (lv_at hl 0 rfl) ?_
        refine va_get (D := (dC, dI)) (ci := 5) (v := .ref opQ) (C := RR_M) (T := FF_M) (N := 20) hx hb hts uu_M hown hK hP 0 rfl rfl 13 (by decide) (hts _ mm_324) (fun _ h9 => h9) rfl dd_M_undo_113 ?_
        refine lv_aload_n hx hb dd_M_undo_116 rfl (lv_at hl 0 rfl) ?_
        refine va_get (D := (dC, dI)) (ci := 5) (v := .int mmd) (C := RR_M) (T := FF_M) (N := 20) hx hb hts uu_M hown hK hP 0 rfl rfl 7 (by decide) (hts _ mm_316) (fun _ h9 => h9) rfl dd_M_undo_117 ?_
        obtain ⟨hi1007, hf⟩ := qq_ckE hf
        refine va_iald (D := (dC, dI)) (f := pQ) (n := 151) (cA := cI) hx hb hK hP 7 0 rfl rfl (qq_inE hi1007) dd_M_undo_120 ?_
        refine lv_topi (fun v1008 ev1008 => ?_)
        replace hf := qq_lt ev1008 hf
        refine va_put (D := (dC, dI)) (ci := 5) (v := .int v1008) (ty := .int) (C := RR_M) (T := FF_M) (N := 20) hx hb hts uu_M tt_M tt_M_ok nn_M hown hK hP hD hS 0 rfl rfl 6 (by decide) (hts _ mm_268) (fun _ h9 => h9) rfl (by decide +kernel) rfl rfl (Nat.le_of_ble_eq_true rfl) dd_M_undo_121 (fun H locs hP hD hS => ?_)
        have hP : va_P (dC, dI) classes [(oM, .inr (5, [.int mth, .int mpl, .ref obd, .int v1002, .int v1004, .int v1006, .int v1008, .int mmd, .ref opa, .ref opS, .ref opR, .ref opG, .ref opP, .ref opQ, .ref okp, .ref okS, .ref okR, .ref okP, .ref okQ, .ref oli])), (obd, .inl (cI, 64, .inl bd)), (opa, .inl (cI, 9664, .inl pa)), (opS, .inl (cI, 151, .inl pS)), (opR, .inl (cI, 151, .inl pR)), (opG, .inl (cI, 151, .inl pG)), (opP, .inl (cI, 151, .inl pP)), (opQ, .inl (cI, 151, .inl pQ)), (okp, .inl (cI, 256, .inl kp)), (okS, .inl (cI, 4, .inl kS)), (okR, .inl (cI, 4, .inl kR)), (okP, .inl (cI, 4, .inl kP)), (okQ, .inl (cI, 4, .inl kQ)), (oli, .inl (cI, 1320, .inl li))] H := hP
        have hD : va_D A [(oM, .inr (5, [.int mth, .int mpl, .ref obd, .int v1002, .int v1004, .int v1006, .int v1008, .int mmd, .ref opa, .ref opS, .ref opR, .ref opG, .ref opP, .ref opQ, .ref okp, .ref okS, .ref okR, .ref okP, .ref okQ, .ref oli])), (obd, .inl (cI, 64, .inl bd)), (opa, .inl (cI, 9664, .inl pa)), (opS, .inl (cI, 151, .inl pS)), (opR, .inl (cI, 151, .inl pR)), (opG, .inl (cI, 151, .inl pG)), (opP, .inl (cI, 151, .inl pP)), (opQ, .inl (cI, 151, .inl pQ)), (okp, .inl (cI, 256, .inl kp)), (okS, .inl (cI, 4, .inl kS)), (okR, .inl (cI, 4, .inl kR)), (okP, .inl (cI, 4, .inl kP)), (okQ, .inl (cI, 4, .inl kQ)), (oli, .inl (cI, 1320, .inl li))] := hD
        refine lv_aload_n hx hb dd_M_undo_124 rfl (lv_at hl 0 rfl) ?_
        refine va_get (D := (dC, dI)) (ci := 5) (v := .int mmd) (C := RR_M) (T := FF_M) (N := 20) hx hb hts uu_M hown hK hP 0 rfl rfl 7 (by decide) (hts _ mm_316) (fun _ h9 => h9) rfl dd_M_undo_125 ?_
        cases hf
        exact qq_iret hx hb hr hlocks hQ hP hD hK hS dd_M_undo_128
      · replace hf := qq_f hc hf
        refine lv_aload_n hx hb dd_M_undo_46 rfl (lv_at hl 0 rfl) ?_
        refine va_get (D := (dC, dI)) (ci := 5) (v := .ref obd) (C := RR_M) (T := FF_M) (N := 20) hx hb hts uu_M hown hK hP 0 rfl rfl 2 (by decide) (hts _ mm_209) (fun _ h9 => h9) rfl dd_M_undo_47 ?_
        refine lv_iload_n hx hb dd_M_undo_50 rfl (lv_at hl 1 rfl) ?_
        refine lv_aload_n hx hb dd_M_undo_51 rfl (lv_at hl 0 rfl) ?_
        refine va_get (D := (dC, dI)) (ci := 5) (v := .ref opa) (C := RR_M) (T := FF_M) (N := 20) hx hb hts uu_M hown hK hP 0 rfl rfl 8 (by decide) (hts _ mm_325) (fun _ h9 => h9) rfl dd_M_undo_52 ?_
        refine lv_bipush (v := 64) hx hb dd_M_undo_55 (by decide) ?_
        refine lv_aload_n hx hb dd_M_undo_57 rfl (lv_at hl 0 rfl) ?_
        refine va_get (D := (dC, dI)) (ci := 5) (v := .int mmd) (C := RR_M) (T := FF_M) (N := 20) hx hb hts uu_M hown hK hP 0 rfl rfl 7 (by decide) (hts _ mm_316) (fun _ h9 => h9) rfl dd_M_undo_58 ?_
        refine lv_imul hx hb dd_M_undo_61 ?_
        refine lv_iload_n hx hb dd_M_undo_62 rfl (lv_at hl 1 rfl) ?_
        refine lv_iadd hx hb dd_M_undo_63 ?_
        obtain ⟨hi1009, hf⟩ := qq_ckE hf
        refine va_iald (D := (dC, dI)) (f := pa) (n := 9664) (cA := cI) hx hb hK hP 2 0 rfl rfl (qq_inE hi1009) dd_M_undo_64 ?_
        obtain ⟨hi1010, hf⟩ := qq_ckE hf
        refine va_iast (D := (dC, dI)) (f := bd) (n := 64) (cA := cI) hx hb hK hP hD hS 1 0 rfl rfl (qq_inE hi1010) dd_M_undo_65 (fun H locs hP hD hS => ?_)
        obtain ⟨bd_1011, ebd_1011⟩ : ∃ z, z = upd bd x1.toNatClampNeg (pa ((64 * mmd) + x1).toNatClampNeg) := ⟨_, rfl⟩
        replace hf := qq_lt ebd_1011 hf
        have hP : va_P (dC, dI) classes [(oM, .inr (5, [.int mth, .int mpl, .ref obd, .int msd, .int mrt, .int mps, .int mqt, .int mmd, .ref opa, .ref opS, .ref opR, .ref opG, .ref opP, .ref opQ, .ref okp, .ref okS, .ref okR, .ref okP, .ref okQ, .ref oli])), (obd, .inl (cI, 64, .inl bd_1011)), (opa, .inl (cI, 9664, .inl pa)), (opS, .inl (cI, 151, .inl pS)), (opR, .inl (cI, 151, .inl pR)), (opG, .inl (cI, 151, .inl pG)), (opP, .inl (cI, 151, .inl pP)), (opQ, .inl (cI, 151, .inl pQ)), (okp, .inl (cI, 256, .inl kp)), (okS, .inl (cI, 4, .inl kS)), (okR, .inl (cI, 4, .inl kR)), (okP, .inl (cI, 4, .inl kP)), (okQ, .inl (cI, 4, .inl kQ)), (oli, .inl (cI, 1320, .inl li))] H := by rw [ebd_1011]; exact hP
        have hD : va_D A [(oM, .inr (5, [.int mth, .int mpl, .ref obd, .int msd, .int mrt, .int mps, .int mqt, .int mmd, .ref opa, .ref opS, .ref opR, .ref opG, .ref opP, .ref opQ, .ref okp, .ref okS, .ref okR, .ref okP, .ref okQ, .ref oli])), (obd, .inl (cI, 64, .inl bd_1011)), (opa, .inl (cI, 9664, .inl pa)), (opS, .inl (cI, 151, .inl pS)), (opR, .inl (cI, 151, .inl pR)), (opG, .inl (cI, 151, .inl pG)), (opP, .inl (cI, 151, .inl pP)), (opQ, .inl (cI, 151, .inl pQ)), (okp, .inl (cI, 256, .inl kp)), (okS, .inl (cI, 4, .inl kS)), (okR, .inl (cI, 4, .inl kR)), (okP, .inl (cI, 4, .inl kP)), (okQ, .inl (cI, 4, .inl kQ)), (oli, .inl (cI, 1320, .inl li))] := by rw [ebd_1011]; exact hD
        obtain ⟨v1012, ev1012⟩ : ∃ z, z = x1 + 1 := ⟨_, rfl⟩
        replace hf := qq_lt ev1012 hf
        refine lv_iinc (k := 1) (v := v1012) (lv' := [(1, .int v1012), (0, .ref oM)]) hx hb dd_M_undo_66 hl rfl (by rw [ev1012]; exact congrArg _ (by decide)) (by decide) rfl (fun ls hl => ?_)
        refine lv_goto (tgt := 40) hx hb dd_M_undo_69 (by decide) ?_
        exact ih40 mth msd mrt mps mqt mmd bd_1011 v1012 _ _ _ (lv_sub hl [1, 0] rfl) hP hD hS hf
  have hJ20 : ∀ (mth : Int32) (msd : Int32) (mrt : Int32) (mps : Int32) (mqt : Int32) (mmd : Int32) (bd : Nat → Int32) (s1 : Int32) (H : Heap) (locs : List Loc) (ls : Array Slot), lv_has ls 2 [(0, .ref oM)] → va_P (dC, dI) classes [(oM, .inr (5, [.int mth, .int mpl, .ref obd, .int msd, .int mrt, .int mps, .int mqt, .int mmd, .ref opa, .ref opS, .ref opR, .ref opG, .ref opP, .ref opQ, .ref okp, .ref okS, .ref okR, .ref okP, .ref okQ, .ref oli])), (obd, .inl (cI, 64, .inl bd)), (opa, .inl (cI, 9664, .inl pa)), (opS, .inl (cI, 151, .inl pS)), (opR, .inl (cI, 151, .inl pR)), (opG, .inl (cI, 151, .inl pG)), (opP, .inl (cI, 151, .inl pP)), (opQ, .inl (cI, 151, .inl pQ)), (okp, .inl (cI, 256, .inl kp)), (okS, .inl (cI, 4, .inl kS)), (okR, .inl (cI, 4, .inl kR)), (okP, .inl (cI, 4, .inl kP)), (okQ, .inl (cI, 4, .inl kQ)), (oli, .inl (cI, 1320, .inl li))] H → va_D A [(oM, .inr (5, [.int mth, .int mpl, .ref obd, .int msd, .int mrt, .int mps, .int mqt, .int mmd, .ref opa, .ref opS, .ref opR, .ref opG, .ref opP, .ref opQ, .ref okp, .ref okS, .ref okR, .ref okP, .ref okQ, .ref oli])), (obd, .inl (cI, 64, .inl bd)), (opa, .inl (cI, 9664, .inl pa)), (opS, .inl (cI, 151, .inl pS)), (opR, .inl (cI, 151, .inl pR)), (opG, .inl (cI, 151, .inl pG)), (opP, .inl (cI, 151, .inl pP)), (opQ, .inl (cI, 151, .inl pQ)), (okp, .inl (cI, 256, .inl kp)), (okS, .inl (cI, 4, .inl kS)), (okR, .inl (cI, 4, .inl kR)), (okP, .inl (cI, 4, .inl kP)), (okQ, .inl (cI, 4, .inl kQ)), (oli, .inl (cI, 1320, .inl li))] → va_S A s.heap H locs → bk_M_undo_20 mpl pa pS pR pP pQ mth msd mrt mps mqt mmd bd s1 = some (rr, mth', msd', mrt', mps', mqt', mmd', bd') → W p l e rm_M_undo s m ([.ref oM] : List Value).toArray below meth c H locs 0 0 Q (F0 m 20 ls [.int s1, .ref oM]) := by
    intro mth msd mrt mps mqt mmd bd s1 H locs ls hl hP hD hS hf
    rw [bk_M_undo_20] at hf
    obtain ⟨⟨r2001, mth_2002⟩, hy2002, hf⟩ := qq_bd hf
    dsimp only at hf
    refine qq_V (As := [.int s1]) (rest := []) (wr := []) (wf := [(oM, .inr (5, [.int mth_2002, .int mpl, .ref obd, .int msd, .int mrt, .int mps, .int mqt, .int mmd, .ref opa, .ref opS, .ref opR, .ref opG, .ref opP, .ref opQ, .ref okp, .ref okS, .ref okR, .ref okP, .ref okQ, .ref oli])), (obd, .inl (cI, 64, .inl bd)), (opa, .inl (cI, 9664, .inl pa)), (opS, .inl (cI, 151, .inl pS)), (opR, .inl (cI, 151, .inl pR)), (opG, .inl (cI, 151, .inl pG)), (opP, .inl (cI, 151, .inl pP)), (opQ, .inl (cI, 151, .inl pQ)), (okp, .inl (cI, 256, .inl kp)), (okS, .inl (cI, 4, .inl kS)), (okR, .inl (cI, 4, .inl kR)), (okP, .inl (cI, 4, .inl kP)), (okQ, .inl (cI, 4, .inl kQ)), (oli, .inl (cI, 1320, .inl li))]) ⟨hx, hb, hml, hown, hts⟩ (ct_M_refused l dC dI cI cL cR oM obd opa opS opR opG opP opQ okp okS okR okP okQ oli mth mpl msd mrt mps mqt mmd bd pa pS pR pG pP pQ kp kS kR kP kQ li s1 hy2002) mm_327 mm_328 mm_329 mm_326 mm_211 hd_M_refused (by decide) qq_00 hP hD hK hS hA hT hN (q0 := 0) (ci := 5) rfl rfl [0, 1, 2, 3, 4, 5, 6, 7, 8, 9, 10, 11, 12, 13] [] [0, 1, 2, 3, 4, 5, 6, 7, 8, 9, 10, 11, 12, 13] rfl rfl rfl (by decide) rfl hl.1 rfl (Nat.le_of_ble_eq_true rfl) dd_M_undo_20 (fun H locs hP hD hS => ?_)
    refine W.eq (g2 := F0 m 23 ls [.int r2001]) rfl ?_
    refine lv_if_eq (tgt := 28) hx hb dd_M_undo_23 (by decide) (fun hc => ?_) (fun hc => ?_)
    · replace hf := qq_t hc hf
      refine lv_aload_n hx hb dd_M_undo_28 rfl (lv_at hl 0 rfl) ?_
      refine lv_dup hx hb dd_M_undo_29 rfl ?_
      refine va_get (D := (dC, dI)) (ci := 5) (v := .int mmd) (C := RR_M) (T := FF_M) (N := 20) hx hb hts uu_M hown hK hP 0 rfl rfl 7 (by decide) (hts _ mm_316) (fun _ h9 => h9) rfl dd_M_undo_30 ?_
      refine lv_iconst (v := 1) hx hb dd_M_undo_33 (by decide) ?_
      refine lv_isub hx hb dd_M_undo_34 ?_
      refine lv_topi (fun v2003 ev2003 => ?_)
      replace hf := qq_lt ev2003 hf
      refine va_put (D := (dC, dI)) (ci := 5) (v := .int v2003) (ty := .int) (C := RR_M) (T := FF_M) (N := 20) hx hb hts uu_M tt_M tt_M_ok nn_M hown hK hP hD hS 0 rfl rfl 7 (by decide) (hts _ mm_316) (fun _ h9 => h9) rfl (by decide +kernel) rfl rfl (Nat.le_of_ble_eq_true rfl) dd_M_undo_35 (fun H locs hP hD hS => ?_)
      have hP : va_P (dC, dI) classes [(oM, .inr (5, [.int mth_2002, .int mpl, .ref obd, .int msd, .int mrt, .int mps, .int mqt, .int v2003, .ref opa, .ref opS, .ref opR, .ref opG, .ref opP, .ref opQ, .ref okp, .ref okS, .ref okR, .ref okP, .ref okQ, .ref oli])), (obd, .inl (cI, 64, .inl bd)), (opa, .inl (cI, 9664, .inl pa)), (opS, .inl (cI, 151, .inl pS)), (opR, .inl (cI, 151, .inl pR)), (opG, .inl (cI, 151, .inl pG)), (opP, .inl (cI, 151, .inl pP)), (opQ, .inl (cI, 151, .inl pQ)), (okp, .inl (cI, 256, .inl kp)), (okS, .inl (cI, 4, .inl kS)), (okR, .inl (cI, 4, .inl kR)), (okP, .inl (cI, 4, .inl kP)), (okQ, .inl (cI, 4, .inl kQ)), (oli, .inl (cI, 1320, .inl li))] H := hP
      have hD : va_D A [(oM, .inr (5, [.int mth_2002, .int mpl, .ref obd, .int msd, .int mrt, .int mps, .int mqt, .int v2003, .ref opa, .ref opS, .ref opR, .ref opG, .ref opP, .ref opQ, .ref okp, .ref okS, .ref okR, .ref okP, .ref okQ, .ref oli])), (obd, .inl (cI, 64, .inl bd)), (opa, .inl (cI, 9664, .inl pa)), (opS, .inl (cI, 151, .inl pS)), (opR, .inl (cI, 151, .inl pR)), (opG, .inl (cI, 151, .inl pG)), (opP, .inl (cI, 151, .inl pP)), (opQ, .inl (cI, 151, .inl pQ)), (okp, .inl (cI, 256, .inl kp)), (okS, .inl (cI, 4, .inl kS)), (okR, .inl (cI, 4, .inl kR)), (okP, .inl (cI, 4, .inl kP)), (okQ, .inl (cI, 4, .inl kQ)), (oli, .inl (cI, 1320, .inl li))] := hD
      refine lv_iconst (v := 0) hx hb dd_M_undo_38 (by decide) ?_
      refine lv_istore_n (lv' := [(1, .int 0), (0, .ref oM)]) hx hb dd_M_undo_39 rfl hl (by decide) rfl (fun ls hl => ?_)
      exact hL40 qq_FU mth_2002 msd mrt mps mqt v2003 bd 0 _ _ _ (lv_sub hl [1, 0] rfl) hP hD hS hf
    · replace hf := qq_f hc hf
      refine lv_iconst (v := 0) hx hb dd_M_undo_26 (by decide) ?_
      cases hf
      exact qq_iret hx hb hr hlocks hQ hP hD hK hS dd_M_undo_27
  have hJ15 : ∀ (mth : Int32) (msd : Int32) (mrt : Int32) (mps : Int32) (mqt : Int32) (mmd : Int32) (bd : Nat → Int32) (H : Heap) (locs : List Loc) (ls : Array Slot), lv_has ls 2 [(0, .ref oM)] → va_P (dC, dI) classes [(oM, .inr (5, [.int mth, .int mpl, .ref obd, .int msd, .int mrt, .int mps, .int mqt, .int mmd, .ref opa, .ref opS, .ref opR, .ref opG, .ref opP, .ref opQ, .ref okp, .ref okS, .ref okR, .ref okP, .ref okQ, .ref oli])), (obd, .inl (cI, 64, .inl bd)), (opa, .inl (cI, 9664, .inl pa)), (opS, .inl (cI, 151, .inl pS)), (opR, .inl (cI, 151, .inl pR)), (opG, .inl (cI, 151, .inl pG)), (opP, .inl (cI, 151, .inl pP)), (opQ, .inl (cI, 151, .inl pQ)), (okp, .inl (cI, 256, .inl kp)), (okS, .inl (cI, 4, .inl kS)), (okR, .inl (cI, 4, .inl kR)), (okP, .inl (cI, 4, .inl kP)), (okQ, .inl (cI, 4, .inl kQ)), (oli, .inl (cI, 1320, .inl li))] H → va_D A [(oM, .inr (5, [.int mth, .int mpl, .ref obd, .int msd, .int mrt, .int mps, .int mqt, .int mmd, .ref opa, .ref opS, .ref opR, .ref opG, .ref opP, .ref opQ, .ref okp, .ref okS, .ref okR, .ref okP, .ref okQ, .ref oli])), (obd, .inl (cI, 64, .inl bd)), (opa, .inl (cI, 9664, .inl pa)), (opS, .inl (cI, 151, .inl pS)), (opR, .inl (cI, 151, .inl pR)), (opG, .inl (cI, 151, .inl pG)), (opP, .inl (cI, 151, .inl pP)), (opQ, .inl (cI, 151, .inl pQ)), (okp, .inl (cI, 256, .inl kp)), (okS, .inl (cI, 4, .inl kS)), (okR, .inl (cI, 4, .inl kR)), (okP, .inl (cI, 4, .inl kP)), (okQ, .inl (cI, 4, .inl kQ)), (oli, .inl (cI, 1320, .inl li))] → va_S A s.heap H locs → bk_M_undo_15 mpl pa pS pR pP pQ mth msd mrt mps mqt mmd bd = some (rr, mth', msd', mrt', mps', mqt', mmd', bd') → W p l e rm_M_undo s m ([.ref oM] : List Value).toArray below meth c H locs 0 0 Q (F0 m 15 ls [.ref oM]) := by
    intro mth msd mrt mps mqt mmd bd H locs ls hl hP hD hS hf
    rw [bk_M_undo_15] at hf
    refine lv_iconst (v := 1) hx hb dd_M_undo_15 (by decide) ?_
    refine lv_goto (tgt := 20) hx hb dd_M_undo_16 (by decide) ?_
    exact hJ20 mth msd mrt mps mqt mmd bd 1 _ _ _ (lv_sub hl [0] rfl) hP hD hS hf
  rw [fn_M_undo] at hf
  refine lv_aload_n hx hb dd_M_undo_0 rfl (lv_at hl 0 rfl) ?_
  refine lv_aload_n hx hb dd_M_undo_1 rfl (lv_at hl 0 rfl) ?_
  refine va_get (D := (dC, dI)) (ci := 5) (v := .int mpl) (C := RR_M) (T := FF_M) (N := 20) hx hb hts uu_M hown hK hP 0 rfl rfl 1 (by decide) (hts _ mm_330) (fun _ h9 => h9) rfl dd_M_undo_2 ?_
  refine lv_if_eq (tgt := 15) hx hb dd_M_undo_5 (by decide) (fun hc => ?_) (fun hc => ?_)
  · replace hf := qq_t hc hf
    exact hJ15 mth msd mrt mps mqt mmd bd _ _ _ (lv_sub hl [0] rfl) hP hD hS hf
  · replace hf := qq_f hc hf
    refine lv_aload_n hx hb dd_M_undo_8 rfl (lv_at hl 0 rfl) ?_
    refine va_get (D := (dC, dI)) (ci := 5) (v := .int mmd) (C := RR_M) (T := FF_M) (N := 20) hx hb hts uu_M hown hK hP 0 rfl rfl 7 (by decide) (hts _ mm_316) (fun _ h9 => h9) rfl dd_M_undo_9 ?_
    refine lv_if_ne (tgt := 19) hx hb dd_M_undo_12 (by decide) (fun hc => ?_) (fun hc => ?_)
    · replace hf := qq_f hc hf
      refine lv_iconst (v := 0) hx hb dd_M_undo_19 (by decide) ?_
      exact hJ20 mth msd mrt mps mqt mmd bd 0 _ _ _ (lv_sub hl [0] rfl) hP hD hS hf
    · replace hf := qq_t hc hf
      exact hJ15 mth msd mrt mps mqt mmd bd _ _ _ (lv_sub hl [0] rfl) hP hD hS hf
theorem dd_P_isInCheck_0 : decode bb_P_isInCheck 0 = .ok (.aload_n 0, 1) := by decide +kernel
theorem dd_P_isInCheck_1 : decode bb_P_isInCheck 1 = .ok (.iconst 1, 1) := by decide +kernel
theorem dd_P_isInCheck_2 : decode bb_P_isInCheck 2 = .ok (.iload_n 1, 1) := by decide +kernel
theorem dd_P_isInCheck_3 : decode bb_P_isInCheck 3 = .ok (.isub, 1) := by decide +kernel
theorem dd_P_isInCheck_4 : decode bb_P_isInCheck 4 = .ok (.aload_n 0, 1) := by decide +kernel
theorem dd_P_isInCheck_5 : decode bb_P_isInCheck 5 = .ok (.getfield 15, 3) := by decide +kernel
theorem dd_P_isInCheck_8 : decode bb_P_isInCheck 8 = .ok (.iload_n 1, 1) := by decide +kernel
theorem dd_P_isInCheck_9 : decode bb_P_isInCheck 9 = .ok (.iaload, 1) := by decide +kernel
theorem dd_P_isInCheck_10 : decode bb_P_isInCheck 10 = .ok (.invokevirtual 21, 3) := by decide +kernel
theorem dd_P_isInCheck_13 : decode bb_P_isInCheck 13 = .ok (.ireturn, 1) := by decide +kernel
abbrev ty_P_isInCheck : Type := Int32
noncomputable def fn_P_isInCheck (sq : Nat → Int32) (kg : Nat → Int32) (a1 : Int32) : Option ty_P_isInCheck := qq_ck (qq_in a1 2) <| (fn_P_isHitBy sq (1 - a1) (kg a1.toNatClampNeg)).bind fun r2 => qq_ck (qq_b r2) <| some r2
abbrev rm_P_isInCheck : Room := { frames := 2, cells := 0, slots := 0, locals := 52 }
set_option maxHeartbeats 4000000 in
set_option maxRecDepth 100000 in
theorem ct_P_isInCheck (l : Launch) (dC : Nat → ClassId) (dI : Nat → Nat → Nat) (cI cL cR : ClassId) (oP osq okg : Nat) (sd : Int32) (rt : Int32) (ps : Int32) (sq : Nat → Int32) (kg : Nat → Int32) (a1 : Int32) {rr : Int32} (hf : fn_P_isInCheck sq kg a1 = some rr) : qq_det l yy_P_isInCheck (ww_of yy_P_isInCheck bb_P_isInCheck 2 (some .boolean)) rm_P_isInCheck (dC, dI) (qq_ty cI cL cR) [.ref oP, .int a1] [(oP, .inr (1, [.ref osq, .ref okg, .int sd, .int rt, .int ps])), (osq, .inl (cI, 64, .inl sq)), (okg, .inl (cI, 2, .inl kg))] (some (.int rr)) [(oP, .inr (1, [.ref osq, .ref okg, .int sd, .int rt, .int ps])), (osq, .inl (cI, 64, .inl sq)), (okg, .inl (cI, 2, .inl kg))] := by
  refine qq_of (own := RR_P) (by decide) rfl (Nat.le_of_ble_eq_true rfl) ?_
  intro p e s m below meth c A Q ls hx hb hml hr hlocks hown hts hK hA hT hN hP hD hS hl hQ
  have hl : lv_has ls 2 [(0, .ref oP), (1, .int a1)] := hl
  rw [fn_P_isInCheck] at hf
  refine lv_aload_n hx hb dd_P_isInCheck_0 rfl (lv_at hl 0 rfl) ?_
  refine lv_iconst (v := 1) hx hb dd_P_isInCheck_1 (by decide) ?_
  refine lv_iload_n hx hb dd_P_isInCheck_2 rfl (lv_at hl 1 rfl) ?_
  refine lv_isub hx hb dd_P_isInCheck_3 ?_
  refine lv_aload_n hx hb dd_P_isInCheck_4 rfl (lv_at hl 0 rfl) ?_
  refine va_get (D := (dC, dI)) (ci := 1) (v := .ref okg) (C := RR_P) (T := FF_P) (N := 5) hx hb hts uu_P hown hK hP 0 rfl rfl 1 (by decide) (hts _ mm_93) (fun _ h9 => h9) rfl dd_P_isInCheck_5 ?_
  refine lv_iload_n hx hb dd_P_isInCheck_8 rfl (lv_at hl 1 rfl) ?_
  obtain ⟨hi1, hf⟩ := qq_ckE hf
  refine va_iald (D := (dC, dI)) (f := kg) (n := 2) (cA := cI) hx hb hK hP 2 0 rfl rfl (qq_inE hi1) dd_P_isInCheck_9 ?_
  obtain ⟨r2, hy2, hf⟩ := qq_bd hf
  refine qq_V (As := [.int (1 - a1), .int (kg a1.toNatClampNeg)]) (rest := []) (wr := []) (wf := [(oP, .inr (1, [.ref osq, .ref okg, .int sd, .int rt, .int ps])), (osq, .inl (cI, 64, .inl sq)), (okg, .inl (cI, 2, .inl kg))]) ⟨hx, hb, hml, hown, hts⟩ (ct_P_isHitBy l dC dI cI cL cR oP osq okg sd rt ps sq kg (1 - a1) (kg a1.toNatClampNeg) hy2) mm_82 mm_83 mm_84 mm_81 mm_15 hd_P_isHitBy (by decide) qq_00 hP hD hK hS hA hT hN (q0 := 0) (ci := 1) rfl rfl [0, 1, 2] [] [0, 1, 2] rfl rfl rfl (by decide) rfl hl.1 rfl (Nat.le_of_ble_eq_true rfl) dd_P_isInCheck_10 (fun H locs hP hD hS => ?_)
  refine W.eq (g2 := F0 m 13 ls [.int r2]) rfl ?_
  obtain ⟨hzb, hf⟩ := qq_ckE hf
  cases hf
  exact qq_zret hx hb hr (qq_bE hzb) hlocks hQ hP hD hK hS dd_P_isInCheck_13
theorem dd_P_putHomePieces_0 : decode bb_P_putHomePieces 0 = .ok (.iconst 0, 1) := by decide +kernel
theorem dd_P_putHomePieces_1 : decode bb_P_putHomePieces 1 = .ok (.istore_n 1, 1) := by decide +kernel
theorem dd_P_putHomePieces_2 : decode bb_P_putHomePieces 2 = .ok (.iload_n 1, 1) := by decide +kernel
theorem dd_P_putHomePieces_3 : decode bb_P_putHomePieces 3 = .ok (.bipush 8, 2) := by decide +kernel
theorem dd_P_putHomePieces_5 : decode bb_P_putHomePieces 5 = .ok (.if_icmp .ge 58, 3) := by decide +kernel
theorem dd_P_putHomePieces_8 : decode bb_P_putHomePieces 8 = .ok (.aload_n 0, 1) := by decide +kernel
theorem dd_P_putHomePieces_9 : decode bb_P_putHomePieces 9 = .ok (.getfield 9, 3) := by decide +kernel
theorem dd_P_putHomePieces_12 : decode bb_P_putHomePieces 12 = .ok (.iload_n 1, 1) := by decide +kernel
theorem dd_P_putHomePieces_13 : decode bb_P_putHomePieces 13 = .ok (.getstatic 18, 3) := by decide +kernel
theorem dd_P_putHomePieces_16 : decode bb_P_putHomePieces 16 = .ok (.iload_n 1, 1) := by decide +kernel
theorem dd_P_putHomePieces_17 : decode bb_P_putHomePieces 17 = .ok (.iaload, 1) := by decide +kernel
theorem dd_P_putHomePieces_18 : decode bb_P_putHomePieces 18 = .ok (.iastore, 1) := by decide +kernel
theorem dd_P_putHomePieces_19 : decode bb_P_putHomePieces 19 = .ok (.aload_n 0, 1) := by decide +kernel
theorem dd_P_putHomePieces_20 : decode bb_P_putHomePieces 20 = .ok (.getfield 9, 3) := by decide +kernel
theorem dd_P_putHomePieces_23 : decode bb_P_putHomePieces 23 = .ok (.bipush 8, 2) := by decide +kernel
theorem dd_P_putHomePieces_25 : decode bb_P_putHomePieces 25 = .ok (.iload_n 1, 1) := by decide +kernel
theorem dd_P_putHomePieces_26 : decode bb_P_putHomePieces 26 = .ok (.iadd, 1) := by decide +kernel
theorem dd_P_putHomePieces_27 : decode bb_P_putHomePieces 27 = .ok (.iconst 1, 1) := by decide +kernel
theorem dd_P_putHomePieces_28 : decode bb_P_putHomePieces 28 = .ok (.iastore, 1) := by decide +kernel
theorem dd_P_putHomePieces_29 : decode bb_P_putHomePieces 29 = .ok (.aload_n 0, 1) := by decide +kernel
theorem dd_P_putHomePieces_30 : decode bb_P_putHomePieces 30 = .ok (.getfield 9, 3) := by decide +kernel
theorem dd_P_putHomePieces_33 : decode bb_P_putHomePieces 33 = .ok (.bipush 48, 2) := by decide +kernel
theorem dd_P_putHomePieces_35 : decode bb_P_putHomePieces 35 = .ok (.iload_n 1, 1) := by decide +kernel
theorem dd_P_putHomePieces_36 : decode bb_P_putHomePieces 36 = .ok (.iadd, 1) := by decide +kernel
theorem dd_P_putHomePieces_37 : decode bb_P_putHomePieces 37 = .ok (.bipush 7, 2) := by decide +kernel
theorem dd_P_putHomePieces_39 : decode bb_P_putHomePieces 39 = .ok (.iastore, 1) := by decide +kernel
theorem dd_P_putHomePieces_40 : decode bb_P_putHomePieces 40 = .ok (.aload_n 0, 1) := by decide +kernel
theorem dd_P_putHomePieces_41 : decode bb_P_putHomePieces 41 = .ok (.getfield 9, 3) := by decide +kernel
theorem dd_P_putHomePieces_44 : decode bb_P_putHomePieces 44 = .ok (.bipush 56, 2) := by decide +kernel
theorem dd_P_putHomePieces_46 : decode bb_P_putHomePieces 46 = .ok (.iload_n 1, 1) := by decide +kernel
theorem dd_P_putHomePieces_47 : decode bb_P_putHomePieces 47 = .ok (.iadd, 1) := by decide +kernel
theorem dd_P_putHomePieces_48 : decode bb_P_putHomePieces 48 = .ok (.getstatic 18, 3) := by decide +kernel
theorem dd_P_putHomePieces_51 : decode bb_P_putHomePieces 51 = .ok (.iload_n 1, 1) := by decide +kernel
theorem dd_P_putHomePieces_52 : decode bb_P_putHomePieces 52 = .ok (.iaload, 1) := by decide +kernel
theorem dd_P_putHomePieces_53 : decode bb_P_putHomePieces 53 = .ok (.bipush 6, 2) := by decide +kernel
theorem dd_P_putHomePieces_55 : decode bb_P_putHomePieces 55 = .ok (.iadd, 1) := by decide +kernel
theorem dd_P_putHomePieces_56 : decode bb_P_putHomePieces 56 = .ok (.iastore, 1) := by decide +kernel
theorem dd_P_putHomePieces_57 : decode bb_P_putHomePieces 57 = .ok (.iinc 1 1, 3) := by decide +kernel
theorem dd_P_putHomePieces_60 : decode bb_P_putHomePieces 60 = .ok (.goto (-58), 3) := by decide +kernel
theorem dd_P_putHomePieces_63 : decode bb_P_putHomePieces 63 = .ok (.return_, 1) := by decide +kernel
abbrev ty_P_putHomePieces : Type := (Nat → Int32)
noncomputable def lo_P_putHomePieces_2 : Nat → (Nat → Int32) → Int32 → Option ty_P_putHomePieces
  | 0, _, _ => none
  | n + 1, sq, x1 => if 8 ≤ x1 then (some sq) else (qq_ck (qq_in x1 8) <| qq_ck (qq_in x1 64) <| qq_let (upd sq x1.toNatClampNeg (tb_HOME_ROW x1.toNatClampNeg)) fun sq_1003 => qq_ck (qq_in (8 + x1) 64) <| qq_let (upd sq_1003 (8 + x1).toNatClampNeg 1) fun sq_1005 => qq_ck (qq_in (48 + x1) 64) <| qq_let (upd sq_1005 (48 + x1).toNatClampNeg 7) fun sq_1007 => qq_ck (qq_in x1 8) <| qq_ck (qq_in (56 + x1) 64) <| qq_let (upd sq_1007 (56 + x1).toNatClampNeg ((tb_HOME_ROW x1.toNatClampNeg) + 6)) fun sq_1010 => qq_let (x1 + 1) fun v1011 => (lo_P_putHomePieces_2  n) sq_1010 v1011)
theorem lo_P_putHomePieces_2_z (sq : Nat → Int32) (x1 : Int32) : lo_P_putHomePieces_2  0 sq x1 = none := rfl
theorem lo_P_putHomePieces_2_s (sq : Nat → Int32) (x1 : Int32) (n : Nat) : lo_P_putHomePieces_2  (n + 1) sq x1 = (if 8 ≤ x1 then (some sq) else (qq_ck (qq_in x1 8) <| qq_ck (qq_in x1 64) <| qq_let (upd sq x1.toNatClampNeg (tb_HOME_ROW x1.toNatClampNeg)) fun sq_1003 => qq_ck (qq_in (8 + x1) 64) <| qq_let (upd sq_1003 (8 + x1).toNatClampNeg 1) fun sq_1005 => qq_ck (qq_in (48 + x1) 64) <| qq_let (upd sq_1005 (48 + x1).toNatClampNeg 7) fun sq_1007 => qq_ck (qq_in x1 8) <| qq_ck (qq_in (56 + x1) 64) <| qq_let (upd sq_1007 (56 + x1).toNatClampNeg ((tb_HOME_ROW x1.toNatClampNeg) + 6)) fun sq_1010 => qq_let (x1 + 1) fun v1011 => (lo_P_putHomePieces_2  n) sq_1010 v1011)) := rfl
noncomputable def fn_P_putHomePieces (sq : Nat → Int32) : Option ty_P_putHomePieces := lo_P_putHomePieces_2 qq_FU sq 0
abbrev rm_P_putHomePieces : Room := { frames := 0, cells := 0, slots := 0, locals := 0 }
set_option maxHeartbeats 4000000 in
set_option maxRecDepth 100000 in
theorem ct_P_putHomePieces (l : Launch) (dC : Nat → ClassId) (dI : Nat → Nat → Nat) (cI cL cR : ClassId) (oP osq okg : Nat) (sd : Int32) (rt : Int32) (ps : Int32) (sq : Nat → Int32) (kg : Nat → Int32) {sq' : Nat → Int32} (hf : fn_P_putHomePieces sq = some sq') : qq_det l yy_P_putHomePieces (ww_of yy_P_putHomePieces bb_P_putHomePieces 2 none) rm_P_putHomePieces (dC, dI) (qq_ty cI cL cR) [.ref oP] [(oP, .inr (1, [.ref osq, .ref okg, .int sd, .int rt, .int ps])), (osq, .inl (cI, 64, .inl sq)), (okg, .inl (cI, 2, .inl kg))] none [(oP, .inr (1, [.ref osq, .ref okg, .int sd, .int rt, .int ps])), (osq, .inl (cI, 64, .inl sq')), (okg, .inl (cI, 2, .inl kg))] := by
  refine qq_of (own := RR_P) (by decide) rfl (Nat.le_of_ble_eq_true rfl) ?_
  intro p e s m below meth c A Q ls hx hb hml hr hlocks hown hts hK hA hT hN hP hD hS hl hQ
  have hl : lv_has ls 2 [(0, .ref oP)] := hl
  obtain ⟨t_HOME_ROW, hZ_HOME_ROW, hT_HOME_ROW⟩ := qq_T0 hT
  have hL2 : ∀ (n2 : Nat) (sq : Nat → Int32) (x1 : Int32) (H : Heap) (locs : List Loc) (ls : Array Slot), lv_has ls 2 [(0, .ref oP), (1, .int x1)] → va_P (dC, dI) classes [(oP, .inr (1, [.ref osq, .ref okg, .int sd, .int rt, .int ps])), (osq, .inl (cI, 64, .inl sq)), (okg, .inl (cI, 2, .inl kg))] H → va_D A [(oP, .inr (1, [.ref osq, .ref okg, .int sd, .int rt, .int ps])), (osq, .inl (cI, 64, .inl sq)), (okg, .inl (cI, 2, .inl kg))] → va_S A s.heap H locs → lo_P_putHomePieces_2 n2 sq x1 = some sq' → W p l e rm_P_putHomePieces s m ([.ref oP] : List Value).toArray below meth c H locs 0 0 Q (F0 m 2 ls []) := by
    intro n2
    induction n2 with
    | zero => exact fun sq x1 H locs ls hl hP hD hS hf => absurd hf (by rw [lo_P_putHomePieces_2_z]; exact fun h => by cases h)
    | succ n2 ih2 =>
      intro sq x1 H locs ls hl hP hD hS hf
      rw [lo_P_putHomePieces_2_s] at hf
      refine lv_iload_n hx hb dd_P_putHomePieces_2 rfl (lv_at hl 1 rfl) ?_
      refine lv_bipush (v := 8) hx hb dd_P_putHomePieces_3 (by decide) ?_
      refine lv_icmp_ge (tgt := 63) hx hb dd_P_putHomePieces_5 (by decide) (fun hc => ?_) (fun hc => ?_)
      · replace hf := qq_t hc hf
        cases hf
        exact qq_vret hx hb hr hlocks hQ hP hD hK hS dd_P_putHomePieces_63
      · replace hf := qq_f hc hf
        refine lv_aload_n hx hb dd_P_putHomePieces_8 rfl (lv_at hl 0 rfl) ?_
        refine va_get (D := (dC, dI)) (ci := 1) (v := .ref osq) (C := RR_P) (T := FF_P) (N := 5) hx hb hts uu_P hown hK hP 0 rfl rfl 0 (by decide) (hts _ mm_11) (fun _ h9 => h9) rfl dd_P_putHomePieces_9 ?_
        refine lv_iload_n hx hb dd_P_putHomePieces_12 rfl (lv_at hl 1 rfl) ?_
        refine va_gets (C := RR_P) (n := "HOME_ROW") (d := "[I") (ref := RR_P) hx hb hZ_HOME_ROW hS hown (hts _ mm_359) (fun _ h9 => h9) dd_P_putHomePieces_13 ?_
        refine lv_iload_n hx hb dd_P_putHomePieces_16 rfl (lv_at hl 1 rfl) ?_
        obtain ⟨hi1001, hf⟩ := qq_ckE hf
        refine va_ti (v := .int (tb_HOME_ROW x1.toNatClampNeg)) hx hb hT_HOME_ROW hS (qq_inE hi1001) rfl dd_P_putHomePieces_17 ?_
        obtain ⟨hi1002, hf⟩ := qq_ckE hf
        refine va_iast (D := (dC, dI)) (f := sq) (n := 64) (cA := cI) hx hb hK hP hD hS 1 0 rfl rfl (qq_inE hi1002) dd_P_putHomePieces_18 (fun H locs hP hD hS => ?_)
        obtain ⟨sq_1003, esq_1003⟩ : ∃ z, z = upd sq x1.toNatClampNeg (tb_HOME_ROW x1.toNatClampNeg) := ⟨_, rfl⟩
        replace hf := qq_lt esq_1003 hf
        have hP : va_P (dC, dI) classes [(oP, .inr (1, [.ref osq, .ref okg, .int sd, .int rt, .int ps])), (osq, .inl (cI, 64, .inl sq_1003)), (okg, .inl (cI, 2, .inl kg))] H := by rw [esq_1003]; exact hP
        have hD : va_D A [(oP, .inr (1, [.ref osq, .ref okg, .int sd, .int rt, .int ps])), (osq, .inl (cI, 64, .inl sq_1003)), (okg, .inl (cI, 2, .inl kg))] := by rw [esq_1003]; exact hD
        refine lv_aload_n hx hb dd_P_putHomePieces_19 rfl (lv_at hl 0 rfl) ?_
        refine va_get (D := (dC, dI)) (ci := 1) (v := .ref osq) (C := RR_P) (T := FF_P) (N := 5) hx hb hts uu_P hown hK hP 0 rfl rfl 0 (by decide) (hts _ mm_11) (fun _ h9 => h9) rfl dd_P_putHomePieces_20 ?_
        refine lv_bipush (v := 8) hx hb dd_P_putHomePieces_23 (by decide) ?_
        refine lv_iload_n hx hb dd_P_putHomePieces_25 rfl (lv_at hl 1 rfl) ?_
        refine lv_iadd hx hb dd_P_putHomePieces_26 ?_
        refine lv_iconst (v := 1) hx hb dd_P_putHomePieces_27 (by decide) ?_
        obtain ⟨hi1004, hf⟩ := qq_ckE hf
        refine va_iast (D := (dC, dI)) (f := sq_1003) (n := 64) (cA := cI) hx hb hK hP hD hS 1 0 rfl rfl (qq_inE hi1004) dd_P_putHomePieces_28 (fun H locs hP hD hS => ?_)
        obtain ⟨sq_1005, esq_1005⟩ : ∃ z, z = upd sq_1003 (8 + x1).toNatClampNeg 1 := ⟨_, rfl⟩
        replace hf := qq_lt esq_1005 hf
        have hP : va_P (dC, dI) classes [(oP, .inr (1, [.ref osq, .ref okg, .int sd, .int rt, .int ps])), (osq, .inl (cI, 64, .inl sq_1005)), (okg, .inl (cI, 2, .inl kg))] H := by rw [esq_1005]; exact hP
        have hD : va_D A [(oP, .inr (1, [.ref osq, .ref okg, .int sd, .int rt, .int ps])), (osq, .inl (cI, 64, .inl sq_1005)), (okg, .inl (cI, 2, .inl kg))] := by rw [esq_1005]; exact hD
        refine lv_aload_n hx hb dd_P_putHomePieces_29 rfl (lv_at hl 0 rfl) ?_
        refine va_get (D := (dC, dI)) (ci := 1) (v := .ref osq) (C := RR_P) (T := FF_P) (N := 5) hx hb hts uu_P hown hK hP 0 rfl rfl 0 (by decide) (hts _ mm_11) (fun _ h9 => h9) rfl dd_P_putHomePieces_30 ?_
        refine lv_bipush (v := 48) hx hb dd_P_putHomePieces_33 (by decide) ?_
        refine lv_iload_n hx hb dd_P_putHomePieces_35 rfl (lv_at hl 1 rfl) ?_
        refine lv_iadd hx hb dd_P_putHomePieces_36 ?_
        refine lv_bipush (v := 7) hx hb dd_P_putHomePieces_37 (by decide) ?_
        obtain ⟨hi1006, hf⟩ := qq_ckE hf
        refine va_iast (D := (dC, dI)) (f := sq_1005) (n := 64) (cA := cI) hx hb hK hP hD hS 1 0 rfl rfl (qq_inE hi1006) dd_P_putHomePieces_39 (fun H locs hP hD hS => ?_)
        obtain ⟨sq_1007, esq_1007⟩ : ∃ z, z = upd sq_1005 (48 + x1).toNatClampNeg 7 := ⟨_, rfl⟩
        replace hf := qq_lt esq_1007 hf
        have hP : va_P (dC, dI) classes [(oP, .inr (1, [.ref osq, .ref okg, .int sd, .int rt, .int ps])), (osq, .inl (cI, 64, .inl sq_1007)), (okg, .inl (cI, 2, .inl kg))] H := by rw [esq_1007]; exact hP
        have hD : va_D A [(oP, .inr (1, [.ref osq, .ref okg, .int sd, .int rt, .int ps])), (osq, .inl (cI, 64, .inl sq_1007)), (okg, .inl (cI, 2, .inl kg))] := by rw [esq_1007]; exact hD
        refine lv_aload_n hx hb dd_P_putHomePieces_40 rfl (lv_at hl 0 rfl) ?_
        refine va_get (D := (dC, dI)) (ci := 1) (v := .ref osq) (C := RR_P) (T := FF_P) (N := 5) hx hb hts uu_P hown hK hP 0 rfl rfl 0 (by decide) (hts _ mm_11) (fun _ h9 => h9) rfl dd_P_putHomePieces_41 ?_
        refine lv_bipush (v := 56) hx hb dd_P_putHomePieces_44 (by decide) ?_
        refine lv_iload_n hx hb dd_P_putHomePieces_46 rfl (lv_at hl 1 rfl) ?_
        refine lv_iadd hx hb dd_P_putHomePieces_47 ?_
        refine va_gets (C := RR_P) (n := "HOME_ROW") (d := "[I") (ref := RR_P) hx hb hZ_HOME_ROW hS hown (hts _ mm_359) (fun _ h9 => h9) dd_P_putHomePieces_48 ?_
        refine lv_iload_n hx hb dd_P_putHomePieces_51 rfl (lv_at hl 1 rfl) ?_
        obtain ⟨hi1008, hf⟩ := qq_ckE hf
        refine va_ti (v := .int (tb_HOME_ROW x1.toNatClampNeg)) hx hb hT_HOME_ROW hS (qq_inE hi1008) rfl dd_P_putHomePieces_52 ?_
        refine lv_bipush (v := 6) hx hb dd_P_putHomePieces_53 (by decide) ?_
        refine lv_iadd hx hb dd_P_putHomePieces_55 ?_
        obtain ⟨hi1009, hf⟩ := qq_ckE hf
        refine va_iast (D := (dC, dI)) (f := sq_1007) (n := 64) (cA := cI) hx hb hK hP hD hS 1 0 rfl rfl (qq_inE hi1009) dd_P_putHomePieces_56 (fun H locs hP hD hS => ?_)
        obtain ⟨sq_1010, esq_1010⟩ : ∃ z, z = upd sq_1007 (56 + x1).toNatClampNeg ((tb_HOME_ROW x1.toNatClampNeg) + 6) := ⟨_, rfl⟩
        replace hf := qq_lt esq_1010 hf
        have hP : va_P (dC, dI) classes [(oP, .inr (1, [.ref osq, .ref okg, .int sd, .int rt, .int ps])), (osq, .inl (cI, 64, .inl sq_1010)), (okg, .inl (cI, 2, .inl kg))] H := by rw [esq_1010]; exact hP
        have hD : va_D A [(oP, .inr (1, [.ref osq, .ref okg, .int sd, .int rt, .int ps])), (osq, .inl (cI, 64, .inl sq_1010)), (okg, .inl (cI, 2, .inl kg))] := by rw [esq_1010]; exact hD
        obtain ⟨v1011, ev1011⟩ : ∃ z, z = x1 + 1 := ⟨_, rfl⟩
        replace hf := qq_lt ev1011 hf
        refine lv_iinc (k := 1) (v := v1011) (lv' := [(1, .int v1011), (0, .ref oP)]) hx hb dd_P_putHomePieces_57 hl rfl (by rw [ev1011]; exact congrArg _ (by decide)) (by decide) rfl (fun ls hl => ?_)
        refine lv_goto (tgt := 2) hx hb dd_P_putHomePieces_60 (by decide) ?_
        exact ih2 sq_1010 v1011 _ _ _ (lv_sub hl [1, 0] rfl) hP hD hS hf
  rw [fn_P_putHomePieces] at hf
  refine lv_iconst (v := 0) hx hb dd_P_putHomePieces_0 (by decide) ?_
  refine lv_istore_n (lv' := [(1, .int 0), (0, .ref oP)]) hx hb dd_P_putHomePieces_1 rfl hl (by decide) rfl (fun ls hl => ?_)
  exact hL2 qq_FU sq 0 _ _ _ (lv_sub hl [1, 0] rfl) hP hD hS hf
theorem dd_S_forcesMate_0 : decode bb_S_forcesMate 0 = .ok (.iload_n 2, 1) := by decide +kernel
theorem dd_S_forcesMate_1 : decode bb_S_forcesMate 1 = .ok (.ifCond .le 12, 3) := by decide +kernel
theorem dd_S_forcesMate_4 : decode bb_S_forcesMate 4 = .ok (.iload_n 3, 1) := by decide +kernel
theorem dd_S_forcesMate_5 : decode bb_S_forcesMate 5 = .ok (.aload_n 0, 1) := by decide +kernel
theorem dd_S_forcesMate_6 : decode bb_S_forcesMate 6 = .ok (.getfield 10, 3) := by decide +kernel
theorem dd_S_forcesMate_9 : decode bb_S_forcesMate 9 = .ok (.arraylength, 1) := by decide +kernel
theorem dd_S_forcesMate_10 : decode bb_S_forcesMate 10 = .ok (.if_icmp .lt 5, 3) := by decide +kernel
theorem dd_S_forcesMate_13 : decode bb_S_forcesMate 13 = .ok (.iconst 0, 1) := by decide +kernel
theorem dd_S_forcesMate_14 : decode bb_S_forcesMate 14 = .ok (.ireturn, 1) := by decide +kernel
abbrev ty_S_forcesMate_4 : Type := Int32
noncomputable def bk_S_forcesMate_4_13 (a2 : Int32) : Option ty_S_forcesMate_4 := some (0 : Int32)
noncomputable def fn_S_forcesMate_4 (a2 : Int32) : Option ty_S_forcesMate_4 := if a2 ≤ 0 then (bk_S_forcesMate_4_13 a2) else (bk_S_forcesMate_4_13 a2)
abbrev rm_S_forcesMate_4 : Room := { frames := 0, cells := 0, slots := 0, locals := 0 }
set_option maxHeartbeats 4000000 in
set_option maxRecDepth 100000 in
theorem ct_S_forcesMate_4 (l : Launch) (dC : Nat → ClassId) (dI : Nat → Nat → Nat) (cI cL cR : ClassId) (oS orows oR0 orc0 oR1 orc1 oR2 orc2 oR3 orc3 oP osq okg : Nat) (rn0 : Int32) (rc0 : Nat → Int32) (rn1 : Int32) (rc1 : Nat → Int32) (rn2 : Int32) (rc2 : Nat → Int32) (rn3 : Int32) (rc3 : Nat → Int32) (sd : Int32) (rt : Int32) (ps : Int32) (sq : Nat → Int32) (kg : Nat → Int32) (a2 : Int32) {rr : Int32} (hf : fn_S_forcesMate_4 a2 = some rr) : qq_det l yy_S_forcesMate (ww_of yy_S_forcesMate bb_S_forcesMate 9 (some .boolean)) rm_S_forcesMate_4 (dC, dI) (qq_ty cI cL cR) [.ref oS, .ref oP, .int a2, .int 4] [(oS, .inr (4, [.ref orows])), (orows, .inl (cR, 4, .inr (.inr (.inr (.inr (qq_rows oR0 oR1 oR2 oR3)))))), (oR0, .inr (2, [.ref orc0, .int rn0])), (orc0, .inl (cI, 415, .inl rc0)), (oR1, .inr (2, [.ref orc1, .int rn1])), (orc1, .inl (cI, 415, .inl rc1)), (oR2, .inr (2, [.ref orc2, .int rn2])), (orc2, .inl (cI, 415, .inl rc2)), (oR3, .inr (2, [.ref orc3, .int rn3])), (orc3, .inl (cI, 415, .inl rc3)), (oP, .inr (1, [.ref osq, .ref okg, .int sd, .int rt, .int ps])), (osq, .inl (cI, 64, .inl sq)), (okg, .inl (cI, 2, .inl kg))] (some (.int rr)) [(oS, .inr (4, [.ref orows])), (orows, .inl (cR, 4, .inr (.inr (.inr (.inr (qq_rows oR0 oR1 oR2 oR3)))))), (oR0, .inr (2, [.ref orc0, .int rn0])), (orc0, .inl (cI, 415, .inl rc0)), (oR1, .inr (2, [.ref orc1, .int rn1])), (orc1, .inl (cI, 415, .inl rc1)), (oR2, .inr (2, [.ref orc2, .int rn2])), (orc2, .inl (cI, 415, .inl rc2)), (oR3, .inr (2, [.ref orc3, .int rn3])), (orc3, .inl (cI, 415, .inl rc3)), (oP, .inr (1, [.ref osq, .ref okg, .int sd, .int rt, .int ps])), (osq, .inl (cI, 64, .inl sq)), (okg, .inl (cI, 2, .inl kg))] := by
  refine qq_of (own := RR_S) (by decide) rfl (Nat.le_of_ble_eq_true rfl) ?_
  intro p e s m below meth c A Q ls hx hb hml hr hlocks hown hts hK hA hT hN hP hD hS hl hQ
  have hl : lv_has ls 9 [(0, .ref oS), (1, .ref oP), (2, .int a2), (3, .int 4)] := hl
  have hJ13 : ∀  (H : Heap) (locs : List Loc) (ls : Array Slot), lv_has ls 9 [] → va_P (dC, dI) classes [(oS, .inr (4, [.ref orows])), (orows, .inl (cR, 4, .inr (.inr (.inr (.inr (qq_rows oR0 oR1 oR2 oR3)))))), (oR0, .inr (2, [.ref orc0, .int rn0])), (orc0, .inl (cI, 415, .inl rc0)), (oR1, .inr (2, [.ref orc1, .int rn1])), (orc1, .inl (cI, 415, .inl rc1)), (oR2, .inr (2, [.ref orc2, .int rn2])), (orc2, .inl (cI, 415, .inl rc2)), (oR3, .inr (2, [.ref orc3, .int rn3])), (orc3, .inl (cI, 415, .inl rc3)), (oP, .inr (1, [.ref osq, .ref okg, .int sd, .int rt, .int ps])), (osq, .inl (cI, 64, .inl sq)), (okg, .inl (cI, 2, .inl kg))] H → va_D A [(oS, .inr (4, [.ref orows])), (orows, .inl (cR, 4, .inr (.inr (.inr (.inr (qq_rows oR0 oR1 oR2 oR3)))))), (oR0, .inr (2, [.ref orc0, .int rn0])), (orc0, .inl (cI, 415, .inl rc0)), (oR1, .inr (2, [.ref orc1, .int rn1])), (orc1, .inl (cI, 415, .inl rc1)), (oR2, .inr (2, [.ref orc2, .int rn2])), (orc2, .inl (cI, 415, .inl rc2)), (oR3, .inr (2, [.ref orc3, .int rn3])), (orc3, .inl (cI, 415, .inl rc3)), (oP, .inr (1, [.ref osq, .ref okg, .int sd, .int rt, .int ps])), (osq, .inl (cI, 64, .inl sq)), (okg, .inl (cI, 2, .inl kg))] → va_S A s.heap H locs → bk_S_forcesMate_4_13 a2 = some rr → W p l e rm_S_forcesMate_4 s m ([.ref oS, .ref oP, .int a2, .int 4] : List Value).toArray below meth c H locs 0 0 Q (F0 m 13 ls []) := by
    intro  H locs ls hl hP hD hS hf
    rw [bk_S_forcesMate_4_13] at hf
    refine lv_iconst (v := 0) hx hb dd_S_forcesMate_13 (by decide) ?_
    cases hf
    exact qq_zret hx hb hr rfl hlocks hQ hP hD hK hS dd_S_forcesMate_14
  rw [fn_S_forcesMate_4] at hf
  refine lv_iload_n hx hb dd_S_forcesMate_0 rfl (lv_at hl 2 rfl) ?_
  refine lv_if_le (tgt := 13) hx hb dd_S_forcesMate_1 (by decide) (fun hc => ?_) (fun hc => ?_)
  · replace hf := qq_t hc hf
    exact hJ13  _ _ _ (lv_sub hl [] rfl) hP hD hS hf
  · replace hf := qq_f hc hf
    refine lv_iload_n hx hb dd_S_forcesMate_4 rfl (lv_at hl 3 rfl) ?_
    refine lv_aload_n hx hb dd_S_forcesMate_5 rfl (lv_at hl 0 rfl) ?_
    refine va_get (D := (dC, dI)) (ci := 4) (v := .ref orows) (C := RR_S) (T := FF_S) (N := 1) hx hb hts uu_S hown hK hP 0 rfl rfl 0 (by decide) (hts _ mm_360) (fun _ h9 => h9) rfl dd_S_forcesMate_6 ?_
    refine va_alen (D := (dC, dI)) (v := 4) hx hb hK hP 1 2 rfl rfl rfl dd_S_forcesMate_9 ?_
    refine lv_icmp_lt (tgt := 15) hx hb dd_S_forcesMate_10 (by decide) (fun hc => absurd hc (by decide)) (fun hc => ?_)
    exact hJ13  _ _ _ (lv_sub hl [] rfl) hP hD hS hf
theorem dd_S_isLost_0 : decode bb_S_isLost 0 = .ok (.iload_n 3, 1) := by decide +kernel
theorem dd_S_isLost_1 : decode bb_S_isLost 1 = .ok (.aload_n 0, 1) := by decide +kernel
theorem dd_S_isLost_2 : decode bb_S_isLost 2 = .ok (.getfield 10, 3) := by decide +kernel
theorem dd_S_isLost_5 : decode bb_S_isLost 5 = .ok (.arraylength, 1) := by decide +kernel
theorem dd_S_isLost_6 : decode bb_S_isLost 6 = .ok (.if_icmp .lt 5, 3) := by decide +kernel
theorem dd_S_isLost_11 : decode bb_S_isLost 11 = .ok (.aload_n 0, 1) := by decide +kernel
theorem dd_S_isLost_12 : decode bb_S_isLost 12 = .ok (.getfield 10, 3) := by decide +kernel
theorem dd_S_isLost_15 : decode bb_S_isLost 15 = .ok (.iload_n 3, 1) := by decide +kernel
theorem dd_S_isLost_16 : decode bb_S_isLost 16 = .ok (.aaload, 1) := by decide +kernel
theorem dd_S_isLost_17 : decode bb_S_isLost 17 = .ok (.astore 4, 2) := by decide +kernel
theorem dd_S_isLost_19 : decode bb_S_isLost 19 = .ok (.aload_n 1, 1) := by decide +kernel
theorem dd_S_isLost_20 : decode bb_S_isLost 20 = .ok (.aload 4, 2) := by decide +kernel
theorem dd_S_isLost_22 : decode bb_S_isLost 22 = .ok (.invokevirtual 16, 3) := by decide +kernel
theorem dd_S_isLost_25 : decode bb_S_isLost 25 = .ok (.aload_n 1, 1) := by decide +kernel
theorem dd_S_isLost_26 : decode bb_S_isLost 26 = .ok (.getfield 22, 3) := by decide +kernel
theorem dd_S_isLost_29 : decode bb_S_isLost 29 = .ok (.istore 5, 2) := by decide +kernel
theorem dd_S_isLost_31 : decode bb_S_isLost 31 = .ok (.iconst 0, 1) := by decide +kernel
theorem dd_S_isLost_32 : decode bb_S_isLost 32 = .ok (.istore 6, 2) := by decide +kernel
theorem dd_S_isLost_34 : decode bb_S_isLost 34 = .ok (.iconst 0, 1) := by decide +kernel
theorem dd_S_isLost_35 : decode bb_S_isLost 35 = .ok (.istore 7, 2) := by decide +kernel
theorem dd_S_isLost_37 : decode bb_S_isLost 37 = .ok (.iload 7, 2) := by decide +kernel
theorem dd_S_isLost_39 : decode bb_S_isLost 39 = .ok (.aload 4, 2) := by decide +kernel
theorem dd_S_isLost_41 : decode bb_S_isLost 41 = .ok (.getfield 26, 3) := by decide +kernel
theorem dd_S_isLost_44 : decode bb_S_isLost 44 = .ok (.if_icmp .ge 101, 3) := by decide +kernel
theorem dd_S_isLost_47 : decode bb_S_isLost 47 = .ok (.aload_n 1, 1) := by decide +kernel
theorem dd_S_isLost_48 : decode bb_S_isLost 48 = .ok (.aload 4, 2) := by decide +kernel
theorem dd_S_isLost_50 : decode bb_S_isLost 50 = .ok (.getfield 29, 3) := by decide +kernel
theorem dd_S_isLost_53 : decode bb_S_isLost 53 = .ok (.iload 7, 2) := by decide +kernel
theorem dd_S_isLost_55 : decode bb_S_isLost 55 = .ok (.iaload, 1) := by decide +kernel
theorem dd_S_isLost_56 : decode bb_S_isLost 56 = .ok (.invokevirtual 33, 3) := by decide +kernel
theorem dd_S_isLost_59 : decode bb_S_isLost 59 = .ok (.istore 8, 2) := by decide +kernel
theorem dd_S_isLost_61 : decode bb_S_isLost 61 = .ok (.aload_n 1, 1) := by decide +kernel
theorem dd_S_isLost_62 : decode bb_S_isLost 62 = .ok (.iload 5, 2) := by decide +kernel
theorem dd_S_isLost_64 : decode bb_S_isLost 64 = .ok (.invokevirtual 37, 3) := by decide +kernel
theorem dd_S_isLost_67 : decode bb_S_isLost 67 = .ok (.ifCond .ne 7, 3) := by decide +kernel
theorem dd_S_isLost_70 : decode bb_S_isLost 70 = .ok (.iconst 1, 1) := by decide +kernel
theorem dd_S_isLost_71 : decode bb_S_isLost 71 = .ok (.goto 4, 3) := by decide +kernel
theorem dd_S_isLost_74 : decode bb_S_isLost 74 = .ok (.iconst 0, 1) := by decide +kernel
theorem dd_S_isLost_75 : decode bb_S_isLost 75 = .ok (.istore 9, 2) := by decide +kernel
theorem dd_S_isLost_77 : decode bb_S_isLost 77 = .ok (.iload 9, 2) := by decide +kernel
theorem dd_S_isLost_79 : decode bb_S_isLost 79 = .ok (.ifCond .eq 19, 3) := by decide +kernel
theorem dd_S_isLost_82 : decode bb_S_isLost 82 = .ok (.aload_n 0, 1) := by decide +kernel
theorem dd_S_isLost_83 : decode bb_S_isLost 83 = .ok (.aload_n 1, 1) := by decide +kernel
theorem dd_S_isLost_84 : decode bb_S_isLost 84 = .ok (.iload_n 2, 1) := by decide +kernel
theorem dd_S_isLost_85 : decode bb_S_isLost 85 = .ok (.iload_n 3, 1) := by decide +kernel
theorem dd_S_isLost_86 : decode bb_S_isLost 86 = .ok (.iconst 1, 1) := by decide +kernel
theorem dd_S_isLost_87 : decode bb_S_isLost 87 = .ok (.iadd, 1) := by decide +kernel
theorem dd_S_isLost_88 : decode bb_S_isLost 88 = .ok (.invokevirtual 49, 3) := by decide +kernel
theorem dd_S_isLost_91 : decode bb_S_isLost 91 = .ok (.ifCond .ne 7, 3) := by decide +kernel
theorem dd_S_isLost_94 : decode bb_S_isLost 94 = .ok (.iconst 1, 1) := by decide +kernel
theorem dd_S_isLost_95 : decode bb_S_isLost 95 = .ok (.goto 4, 3) := by decide +kernel
theorem dd_S_isLost_98 : decode bb_S_isLost 98 = .ok (.iconst 0, 1) := by decide +kernel
theorem dd_S_isLost_99 : decode bb_S_isLost 99 = .ok (.istore 10, 2) := by decide +kernel
theorem dd_S_isLost_101 : decode bb_S_isLost 101 = .ok (.aload_n 1, 1) := by decide +kernel
theorem dd_S_isLost_102 : decode bb_S_isLost 102 = .ok (.aload 4, 2) := by decide +kernel
theorem dd_S_isLost_104 : decode bb_S_isLost 104 = .ok (.getfield 29, 3) := by decide +kernel
theorem dd_S_isLost_107 : decode bb_S_isLost 107 = .ok (.iload 7, 2) := by decide +kernel
theorem dd_S_isLost_109 : decode bb_S_isLost 109 = .ok (.iaload, 1) := by decide +kernel
theorem dd_S_isLost_110 : decode bb_S_isLost 110 = .ok (.iload 8, 2) := by decide +kernel
theorem dd_S_isLost_112 : decode bb_S_isLost 112 = .ok (.invokevirtual 45, 3) := by decide +kernel
theorem dd_S_isLost_115 : decode bb_S_isLost 115 = .ok (.iload 10, 2) := by decide +kernel
theorem dd_S_isLost_117 : decode bb_S_isLost 117 = .ok (.ifCond .eq 5, 3) := by decide +kernel
theorem dd_S_isLost_120 : decode bb_S_isLost 120 = .ok (.iconst 0, 1) := by decide +kernel
theorem dd_S_isLost_121 : decode bb_S_isLost 121 = .ok (.ireturn, 1) := by decide +kernel
theorem dd_S_isLost_122 : decode bb_S_isLost 122 = .ok (.iload 6, 2) := by decide +kernel
theorem dd_S_isLost_124 : decode bb_S_isLost 124 = .ok (.ifCond .ne 8, 3) := by decide +kernel
theorem dd_S_isLost_127 : decode bb_S_isLost 127 = .ok (.iload 9, 2) := by decide +kernel
theorem dd_S_isLost_129 : decode bb_S_isLost 129 = .ok (.ifCond .eq 7, 3) := by decide +kernel
theorem dd_S_isLost_132 : decode bb_S_isLost 132 = .ok (.iconst 1, 1) := by decide +kernel
theorem dd_S_isLost_133 : decode bb_S_isLost 133 = .ok (.goto 4, 3) := by decide +kernel
theorem dd_S_isLost_136 : decode bb_S_isLost 136 = .ok (.iconst 0, 1) := by decide +kernel
theorem dd_S_isLost_137 : decode bb_S_isLost 137 = .ok (.istore 6, 2) := by decide +kernel
theorem dd_S_isLost_139 : decode bb_S_isLost 139 = .ok (.iinc 7 1, 3) := by decide +kernel
theorem dd_S_isLost_142 : decode bb_S_isLost 142 = .ok (.goto (-105), 3) := by decide +kernel
theorem dd_S_isLost_145 : decode bb_S_isLost 145 = .ok (.iload 6, 2) := by decide +kernel
theorem dd_S_isLost_147 : decode bb_S_isLost 147 = .ok (.ifCond .ne 12, 3) := by decide +kernel
theorem dd_S_isLost_150 : decode bb_S_isLost 150 = .ok (.aload_n 1, 1) := by decide +kernel
theorem dd_S_isLost_151 : decode bb_S_isLost 151 = .ok (.iload 5, 2) := by decide +kernel
theorem dd_S_isLost_153 : decode bb_S_isLost 153 = .ok (.invokevirtual 37, 3) := by decide +kernel
theorem dd_S_isLost_156 : decode bb_S_isLost 156 = .ok (.ifCond .eq 7, 3) := by decide +kernel
theorem dd_S_isLost_159 : decode bb_S_isLost 159 = .ok (.iconst 1, 1) := by decide +kernel
theorem dd_S_isLost_160 : decode bb_S_isLost 160 = .ok (.goto 4, 3) := by decide +kernel
theorem dd_S_isLost_163 : decode bb_S_isLost 163 = .ok (.iconst 0, 1) := by decide +kernel
theorem dd_S_isLost_164 : decode bb_S_isLost 164 = .ok (.ireturn, 1) := by decide +kernel
abbrev ty_S_isLost_3 : Type := Int32 × Int32 × (Nat → Int32) × Int32 × Int32 × Int32 × (Nat → Int32) × (Nat → Int32)
noncomputable def bk_S_isLost_3_164 (a2 : Int32) (rn3 : Int32) (rc3 : Nat → Int32) (sd : Int32) (rt : Int32) (ps : Int32) (sq : Nat → Int32) (kg : Nat → Int32) (s0 : Int32) : Option ty_S_isLost_3 := qq_ck (qq_b s0) <| some (s0, rn3, rc3, sd, rt, ps, sq, kg)
noncomputable def bk_S_isLost_3_159 (a2 : Int32) (rn3 : Int32) (rc3 : Nat → Int32) (sd : Int32) (rt : Int32) (ps : Int32) (sq : Nat → Int32) (kg : Nat → Int32) : Option ty_S_isLost_3 := bk_S_isLost_3_164 a2 rn3 rc3 sd rt ps sq kg 1
noncomputable def bk_S_isLost_3_137 (a2 : Int32) (k37 : Int32 → (Nat → Int32) → Int32 → Int32 → Int32 → (Nat → Int32) → (Nat → Int32) → Int32 → Int32 → Int32 → Option ty_S_isLost_3) (rn3 : Int32) (rc3 : Nat → Int32) (sd : Int32) (rt : Int32) (ps : Int32) (sq : Nat → Int32) (kg : Nat → Int32) (x5 : Int32) (x7 : Int32) (s0 : Int32) : Option ty_S_isLost_3 := qq_let (x7 + 1) fun v3001 => k37 rn3 rc3 sd rt ps sq kg x5 s0 v3001
noncomputable def bk_S_isLost_3_132 (a2 : Int32) (k37 : Int32 → (Nat → Int32) → Int32 → Int32 → Int32 → (Nat → Int32) → (Nat → Int32) → Int32 → Int32 → Int32 → Option ty_S_isLost_3) (rn3 : Int32) (rc3 : Nat → Int32) (sd : Int32) (rt : Int32) (ps : Int32) (sq : Nat → Int32) (kg : Nat → Int32) (x5 : Int32) (x7 : Int32) : Option ty_S_isLost_3 := bk_S_isLost_3_137 a2 k37 rn3 rc3 sd rt ps sq kg x5 x7 1
noncomputable def bk_S_isLost_3_99 (a2 : Int32) (k37 : Int32 → (Nat → Int32) → Int32 → Int32 → Int32 → (Nat → Int32) → (Nat → Int32) → Int32 → Int32 → Int32 → Option ty_S_isLost_3) (rn3 : Int32) (rc3 : Nat → Int32) (sd : Int32) (rt : Int32) (ps : Int32) (sq : Nat → Int32) (kg : Nat → Int32) (x5 : Int32) (x6 : Int32) (x7 : Int32) (x8 : Int32) (x9 : Int32) (s0 : Int32) : Option ty_S_isLost_3 := qq_ck (qq_in x7 415) <| (fn_P_takeBack sd rt ps sq kg (rc3 x7.toNatClampNeg) x8).bind fun (sd_5002, rt_5003, ps_5004, sq_5005, kg_5006) => if s0 = 0 then (if x6 = 0 then (if x9 = 0 then (bk_S_isLost_3_137 a2 k37 rn3 rc3 sd_5002 rt_5003 ps_5004 sq_5005 kg_5006 x5 x7 0) else (bk_S_isLost_3_132 a2 k37 rn3 rc3 sd_5002 rt_5003 ps_5004 sq_5005 kg_5006 x5 x7)) else (bk_S_isLost_3_132 a2 k37 rn3 rc3 sd_5002 rt_5003 ps_5004 sq_5005 kg_5006 x5 x7)) else (some (0, rn3, rc3, sd_5002, rt_5003, ps_5004, sq_5005, kg_5006))
noncomputable def bk_S_isLost_3_98 (a2 : Int32) (k37 : Int32 → (Nat → Int32) → Int32 → Int32 → Int32 → (Nat → Int32) → (Nat → Int32) → Int32 → Int32 → Int32 → Option ty_S_isLost_3) (rn3 : Int32) (rc3 : Nat → Int32) (sd : Int32) (rt : Int32) (ps : Int32) (sq : Nat → Int32) (kg : Nat → Int32) (x5 : Int32) (x6 : Int32) (x7 : Int32) (x8 : Int32) (x9 : Int32) : Option ty_S_isLost_3 := bk_S_isLost_3_99 a2 k37 rn3 rc3 sd rt ps sq kg x5 x6 x7 x8 x9 0
noncomputable def bk_S_isLost_3_75 (a2 : Int32) (k37 : Int32 → (Nat → Int32) → Int32 → Int32 → Int32 → (Nat → Int32) → (Nat → Int32) → Int32 → Int32 → Int32 → Option ty_S_isLost_3) (rn3 : Int32) (rc3 : Nat → Int32) (sd : Int32) (rt : Int32) (ps : Int32) (sq : Nat → Int32) (kg : Nat → Int32) (x5 : Int32) (x6 : Int32) (x7 : Int32) (x8 : Int32) (s0 : Int32) : Option ty_S_isLost_3 := if s0 = 0 then (bk_S_isLost_3_98 a2 k37 rn3 rc3 sd rt ps sq kg x5 x6 x7 x8 s0) else ((fn_S_forcesMate_4 a2).bind fun r7002 => if r7002 = 0 then (bk_S_isLost_3_99 a2 k37 rn3 rc3 sd rt ps sq kg x5 x6 x7 x8 s0 1) else (bk_S_isLost_3_98 a2 k37 rn3 rc3 sd rt ps sq kg x5 x6 x7 x8 s0))
noncomputable def lo_S_isLost_3_37 (a2 : Int32) : Nat → Int32 → (Nat → Int32) → Int32 → Int32 → Int32 → (Nat → Int32) → (Nat → Int32) → Int32 → Int32 → Int32 → Option ty_S_isLost_3
  | 0, _, _, _, _, _, _, _, _, _, _ => none
  | n + 1, rn3, rc3, sd, rt, ps, sq, kg, x5, x6, x7 => if rn3 ≤ x7 then (if x6 = 0 then ((fn_P_isInCheck sq kg x5).bind fun r8001 => if r8001 = 0 then (bk_S_isLost_3_164 a2 rn3 rc3 sd rt ps sq kg 0) else (bk_S_isLost_3_159 a2 rn3 rc3 sd rt ps sq kg)) else (bk_S_isLost_3_159 a2 rn3 rc3 sd rt ps sq kg)) else (qq_ck (qq_in x7 415) <| (fn_P_play sd rt ps sq kg (rc3 x7.toNatClampNeg)).bind fun (r8003, sd_8004, rt_8005, ps_8006, sq_8007, kg_8008) => (fn_P_isInCheck sq_8007 kg_8008 x5).bind fun r8009 => if r8009 = 0 then (bk_S_isLost_3_75 a2 (lo_S_isLost_3_37 a2 n) rn3 rc3 sd_8004 rt_8005 ps_8006 sq_8007 kg_8008 x5 x6 x7 r8003 1) else (bk_S_isLost_3_75 a2 (lo_S_isLost_3_37 a2 n) rn3 rc3 sd_8004 rt_8005 ps_8006 sq_8007 kg_8008 x5 x6 x7 r8003 0))
theorem lo_S_isLost_3_37_z (a2 : Int32) (rn3 : Int32) (rc3 : Nat → Int32) (sd : Int32) (rt : Int32) (ps : Int32) (sq : Nat → Int32) (kg : Nat → Int32) (x5 : Int32) (x6 : Int32) (x7 : Int32) : lo_S_isLost_3_37 a2 0 rn3 rc3 sd rt ps sq kg x5 x6 x7 = none := rfl
theorem lo_S_isLost_3_37_s (a2 : Int32) (rn3 : Int32) (rc3 : Nat → Int32) (sd : Int32) (rt : Int32) (ps : Int32) (sq : Nat → Int32) (kg : Nat → Int32) (x5 : Int32) (x6 : Int32) (x7 : Int32) (n : Nat) : lo_S_isLost_3_37 a2 (n + 1) rn3 rc3 sd rt ps sq kg x5 x6 x7 = (if rn3 ≤ x7 then (if x6 = 0 then ((fn_P_isInCheck sq kg x5).bind fun r8001 => if r8001 = 0 then (bk_S_isLost_3_164 a2 rn3 rc3 sd rt ps sq kg 0) else (bk_S_isLost_3_159 a2 rn3 rc3 sd rt ps sq kg)) else (bk_S_isLost_3_159 a2 rn3 rc3 sd rt ps sq kg)) else (qq_ck (qq_in x7 415) <| (fn_P_play sd rt ps sq kg (rc3 x7.toNatClampNeg)).bind fun (r8003, sd_8004, rt_8005, ps_8006, sq_8007, kg_8008) => (fn_P_isInCheck sq_8007 kg_8008 x5).bind fun r8009 => if r8009 = 0 then (bk_S_isLost_3_75 a2 (lo_S_isLost_3_37 a2 n) rn3 rc3 sd_8004 rt_8005 ps_8006 sq_8007 kg_8008 x5 x6 x7 r8003 1) else (bk_S_isLost_3_75 a2 (lo_S_isLost_3_37 a2 n) rn3 rc3 sd_8004 rt_8005 ps_8006 sq_8007 kg_8008 x5 x6 x7 r8003 0))) := rfl
noncomputable def fn_S_isLost_3 (rn3 : Int32) (rc3 : Nat → Int32) (sd : Int32) (rt : Int32) (ps : Int32) (sq : Nat → Int32) (kg : Nat → Int32) (a2 : Int32) : Option ty_S_isLost_3 := (fn_P_listCandidates sd rt ps sq kg rn3 rc3).bind fun (rn3_1, rc3_2) => lo_S_isLost_3_37 a2 qq_FU rn3_1 rc3_2 sd rt ps sq kg sd 0 0
abbrev rm_S_isLost_3 : Room := { frames := 5, cells := 0, slots := 0, locals := 121 }
set_option maxHeartbeats 4000000 in
set_option maxRecDepth 100000 in
theorem ct_S_isLost_3 (l : Launch) (dC : Nat → ClassId) (dI : Nat → Nat → Nat) (cI cL cR : ClassId) (oS orows oR0 orc0 oR1 orc1 oR2 orc2 oR3 orc3 oP osq okg : Nat) (rn0 : Int32) (rc0 : Nat → Int32) (rn1 : Int32) (rc1 : Nat → Int32) (rn2 : Int32) (rc2 : Nat → Int32) (rn3 : Int32) (rc3 : Nat → Int32) (sd : Int32) (rt : Int32) (ps : Int32) (sq : Nat → Int32) (kg : Nat → Int32) (a2 : Int32) {rr : Int32} {rn3' : Int32} {rc3' : Nat → Int32} {sd' : Int32} {rt' : Int32} {ps' : Int32} {sq' : Nat → Int32} {kg' : Nat → Int32} (hf : fn_S_isLost_3 rn3 rc3 sd rt ps sq kg a2 = some (rr, rn3', rc3', sd', rt', ps', sq', kg')) : qq_det l yy_S_isLost (ww_of yy_S_isLost bb_S_isLost 11 (some .boolean)) rm_S_isLost_3 (dC, dI) (qq_ty cI cL cR) [.ref oS, .ref oP, .int a2, .int 3] [(oS, .inr (4, [.ref orows])), (orows, .inl (cR, 4, .inr (.inr (.inr (.inr (qq_rows oR0 oR1 oR2 oR3)))))), (oR0, .inr (2, [.ref orc0, .int rn0])), (orc0, .inl (cI, 415, .inl rc0)), (oR1, .inr (2, [.ref orc1, .int rn1])), (orc1, .inl (cI, 415, .inl rc1)), (oR2, .inr (2, [.ref orc2, .int rn2])), (orc2, .inl (cI, 415, .inl rc2)), (oR3, .inr (2, [.ref orc3, .int rn3])), (orc3, .inl (cI, 415, .inl rc3)), (oP, .inr (1, [.ref osq, .ref okg, .int sd, .int rt, .int ps])), (osq, .inl (cI, 64, .inl sq)), (okg, .inl (cI, 2, .inl kg))] (some (.int rr)) [(oS, .inr (4, [.ref orows])), (orows, .inl (cR, 4, .inr (.inr (.inr (.inr (qq_rows oR0 oR1 oR2 oR3)))))), (oR0, .inr (2, [.ref orc0, .int rn0])), (orc0, .inl (cI, 415, .inl rc0)), (oR1, .inr (2, [.ref orc1, .int rn1])), (orc1, .inl (cI, 415, .inl rc1)), (oR2, .inr (2, [.ref orc2, .int rn2])), (orc2, .inl (cI, 415, .inl rc2)), (oR3, .inr (2, [.ref orc3, .int rn3'])), (orc3, .inl (cI, 415, .inl rc3')), (oP, .inr (1, [.ref osq, .ref okg, .int sd', .int rt', .int ps'])), (osq, .inl (cI, 64, .inl sq')), (okg, .inl (cI, 2, .inl kg'))] := by
  refine qq_of (own := RR_S) (by decide) rfl (Nat.le_of_ble_eq_true rfl) ?_
  intro p e s m below meth c A Q ls hx hb hml hr hlocks hown hts hK hA hT hN hP hD hS hl hQ
  have hl : lv_has ls 11 [(0, .ref oS), (1, .ref oP), (2, .int a2), (3, .int 3)] := hl
  have hJ164 : ∀ (rn3 : Int32) (rc3 : Nat → Int32) (sd : Int32) (rt : Int32) (ps : Int32) (sq : Nat → Int32) (kg : Nat → Int32) (s0 : Int32) (H : Heap) (locs : List Loc) (ls : Array Slot), lv_has ls 11 [] → va_P (dC, dI) classes [(oS, .inr (4, [.ref orows])), (orows, .inl (cR, 4, .inr (.inr (.inr (.inr (qq_rows oR0 oR1 oR2 oR3)))))), (oR0, .inr (2, [.ref orc0, .int rn0])), (orc0, .inl (cI, 415, .inl rc0)), (oR1, .inr (2, [.ref orc1, .int rn1])), (orc1, .inl (cI, 415, .inl rc1)), (oR2, .inr (2, [.ref orc2, .int rn2])), (orc2, .inl (cI, 415, .inl rc2)), (oR3, .inr (2, [.ref orc3, .int rn3])), (orc3, .inl (cI, 415, .inl rc3)), (oP, .inr (1, [.ref osq, .ref okg, .int sd, .int rt, .int ps])), (osq, .inl (cI, 64, .inl sq)), (okg, .inl (cI, 2, .inl kg))] H → va_D A [(oS, .inr (4, [.ref orows])), (orows, .inl (cR, 4, .inr (.inr (.inr (.inr (qq_rows oR0 oR1 oR2 oR3)))))), (oR0, .inr (2, [.ref orc0, .int rn0])), (orc0, .inl (cI, 415, .inl rc0)), (oR1, .inr (2, [.ref orc1, .int rn1])), (orc1, .inl (cI, 415, .inl rc1)), (oR2, .inr (2, [.ref orc2, .int rn2])), (orc2, .inl (cI, 415, .inl rc2)), (oR3, .inr (2, [.ref orc3, .int rn3])), (orc3, .inl (cI, 415, .inl rc3)), (oP, .inr (1, [.ref osq, .ref okg, .int sd, .int rt, .int ps])), (osq, .inl (cI, 64, .inl sq)), (okg, .inl (cI, 2, .inl kg))] → va_S A s.heap H locs → bk_S_isLost_3_164 a2 rn3 rc3 sd rt ps sq kg s0 = some (rr, rn3', rc3', sd', rt', ps', sq', kg') → W p l e rm_S_isLost_3 s m ([.ref oS, .ref oP, .int a2, .int 3] : List Value).toArray below meth c H locs 0 0 Q (F0 m 164 ls [.int s0]) := by
    intro rn3 rc3 sd rt ps sq kg s0 H locs ls hl hP hD hS hf
    rw [bk_S_isLost_3_164] at hf
    obtain ⟨hzb, hf⟩ := qq_ckE hf
    cases hf
    exact qq_zret hx hb hr (qq_bE hzb) hlocks hQ hP hD hK hS dd_S_isLost_164
  have hJ159 : ∀ (rn3 : Int32) (rc3 : Nat → Int32) (sd : Int32) (rt : Int32) (ps : Int32) (sq : Nat → Int32) (kg : Nat → Int32) (H : Heap) (locs : List Loc) (ls : Array Slot), lv_has ls 11 [] → va_P (dC, dI) classes [(oS, .inr (4, [.ref orows])), (orows, .inl (cR, 4, .inr (.inr (.inr (.inr (qq_rows oR0 oR1 oR2 oR3)))))), (oR0, .inr (2, [.ref orc0, .int rn0])), (orc0, .inl (cI, 415, .inl rc0)), (oR1, .inr (2, [.ref orc1, .int rn1])), (orc1, .inl (cI, 415, .inl rc1)), (oR2, .inr (2, [.ref orc2, .int rn2])), (orc2, .inl (cI, 415, .inl rc2)), (oR3, .inr (2, [.ref orc3, .int rn3])), (orc3, .inl (cI, 415, .inl rc3)), (oP, .inr (1, [.ref osq, .ref okg, .int sd, .int rt, .int ps])), (osq, .inl (cI, 64, .inl sq)), (okg, .inl (cI, 2, .inl kg))] H → va_D A [(oS, .inr (4, [.ref orows])), (orows, .inl (cR, 4, .inr (.inr (.inr (.inr (qq_rows oR0 oR1 oR2 oR3)))))), (oR0, .inr (2, [.ref orc0, .int rn0])), (orc0, .inl (cI, 415, .inl rc0)), (oR1, .inr (2, [.ref orc1, .int rn1])), (orc1, .inl (cI, 415, .inl rc1)), (oR2, .inr (2, [.ref orc2, .int rn2])), (orc2, .inl (cI, 415, .inl rc2)), (oR3, .inr (2, [.ref orc3, .int rn3])), (orc3, .inl (cI, 415, .inl rc3)), (oP, .inr (1, [.ref osq, .ref okg, .int sd, .int rt, .int ps])), (osq, .inl (cI, 64, .inl sq)), (okg, .inl (cI, 2, .inl kg))] → va_S A s.heap H locs → bk_S_isLost_3_159 a2 rn3 rc3 sd rt ps sq kg = some (rr, rn3', rc3', sd', rt', ps', sq', kg') → W p l e rm_S_isLost_3 s m ([.ref oS, .ref oP, .int a2, .int 3] : List Value).toArray below meth c H locs 0 0 Q (F0 m 159 ls []) := by
    intro rn3 rc3 sd rt ps sq kg H locs ls hl hP hD hS hf
    rw [bk_S_isLost_3_159] at hf
    refine lv_iconst (v := 1) hx hb dd_S_isLost_159 (by decide) ?_
    refine lv_goto (tgt := 164) hx hb dd_S_isLost_160 (by decide) ?_
    exact hJ164 rn3 rc3 sd rt ps sq kg 1 _ _ _ (lv_sub hl [] rfl) hP hD hS hf
  have hL37 : ∀ (n37 : Nat) (rn3 : Int32) (rc3 : Nat → Int32) (sd : Int32) (rt : Int32) (ps : Int32) (sq : Nat → Int32) (kg : Nat → Int32) (x5 : Int32) (x6 : Int32) (x7 : Int32) (H : Heap) (locs : List Loc) (ls : Array Slot), lv_has ls 11 [(0, .ref oS), (1, .ref oP), (2, .int a2), (3, .int 3), (4, .ref oR3), (5, .int x5), (6, .int x6), (7, .int x7)] → va_P (dC, dI) classes [(oS, .inr (4, [.ref orows])), (orows, .inl (cR, 4, .inr (.inr (.inr (.inr (qq_rows oR0 oR1 oR2 oR3)))))), (oR0, .inr (2, [.ref orc0, .int rn0])), (orc0, .inl (cI, 415, .inl rc0)), (oR1, .inr (2, [.ref orc1, .int rn1])), (orc1, .inl (cI, 415, .inl rc1)), (oR2, .inr (2, [.ref orc2, .int rn2])), (orc2, .inl (cI, 415, .inl rc2)), (oR3, .inr (2, [.ref orc3, .int rn3])), (orc3, .inl (cI, 415, .inl rc3)), (oP, .inr (1, [.ref osq, .ref okg, .int sd, .int rt, .int ps])), (osq, .inl (cI, 64, .inl sq)), (okg, .inl (cI, 2, .inl kg))] H → va_D A [(oS, .inr (4, [.ref orows])), (orows, .inl (cR, 4, .inr (.inr (.inr (.inr (qq_rows oR0 oR1 oR2 oR3)))))), (oR0, .inr (2, [.ref orc0, .int rn0])), (orc0, .inl (cI, 415, .inl rc0)), (oR1, .inr (2, [.ref orc1, .int rn1])), (orc1, .inl (cI, 415, .inl rc1)), (oR2, .inr (2, [.ref orc2, .int rn2])), (orc2, .inl (cI, 415, .inl rc2)), (oR3, .inr (2, [.ref orc3, .int rn3])), (orc3, .inl (cI, 415, .inl rc3)), (oP, .inr (1, [.ref osq, .ref okg, .int sd, .int rt, .int ps])), (osq, .inl (cI, 64, .inl sq)), (okg, .inl (cI, 2, .inl kg))] → va_S A s.heap H locs → lo_S_isLost_3_37 a2 n37 rn3 rc3 sd rt ps sq kg x5 x6 x7 = some (rr, rn3', rc3', sd', rt', ps', sq', kg') → W p l e rm_S_isLost_3 s m ([.ref oS, .ref oP, .int a2, .int 3] : List Value).toArray below meth c H locs 0 0 Q (F0 m 37 ls []) := by
    intro n37
    induction n37 with
    | zero => exact fun rn3 rc3 sd rt ps sq kg x5 x6 x7 H locs ls hl hP hD hS hf => absurd hf (by rw [lo_S_isLost_3_37_z]; exact fun h => by cases h)
    | succ n37 ih37 =>
      have hJ137 : ∀ (rn3 : Int32) (rc3 : Nat → Int32) (sd : Int32) (rt : Int32) (ps : Int32) (sq : Nat → Int32) (kg : Nat → Int32) (x5 : Int32) (x7 : Int32) (s0 : Int32) (H : Heap) (locs : List Loc) (ls : Array Slot), lv_has ls 11 [(0, .ref oS), (1, .ref oP), (2, .int a2), (3, .int 3), (4, .ref oR3), (5, .int x5), (7, .int x7)] → va_P (dC, dI) classes [(oS, .inr (4, [.ref orows])), (orows, .inl (cR, 4, .inr (.inr (.inr (.inr (qq_rows oR0 oR1 oR2 oR3)))))), (oR0, .inr (2, [.ref orc0, .int rn0])), (orc0, .inl (cI, 415, .inl rc0)), (oR1, .inr (2, [.ref orc1, .int rn1])), (orc1, .inl (cI, 415, .inl rc1)), (oR2, .inr (2, [.ref orc2, .int rn2])), (orc2, .inl (cI, 415, .inl rc2)), (oR3, .inr (2, [.ref orc3, .int rn3])), (orc3, .inl (cI, 415, .inl rc3)), (oP, .inr (1, [.ref osq, .ref okg, .int sd, .int rt, .int ps])), (osq, .inl (cI, 64, .inl sq)), (okg, .inl (cI, 2, .inl kg))] H → va_D A [(oS, .inr (4, [.ref orows])), (orows, .inl (cR, 4, .inr (.inr (.inr (.inr (qq_rows oR0 oR1 oR2 oR3)))))), (oR0, .inr (2, [.ref orc0, .int rn0])), (orc0, .inl (cI, 415, .inl rc0)), (oR1, .inr (2, [.ref orc1, .int rn1])), (orc1, .inl (cI, 415, .inl rc1)), (oR2, .inr (2, [.ref orc2, .int rn2])), (orc2, .inl (cI, 415, .inl rc2)), (oR3, .inr (2, [.ref orc3, .int rn3])), (orc3, .inl (cI, 415, .inl rc3)), (oP, .inr (1, [.ref osq, .ref okg, .int sd, .int rt, .int ps])), (osq, .inl (cI, 64, .inl sq)), (okg, .inl (cI, 2, .inl kg))] → va_S A s.heap H locs → bk_S_isLost_3_137 a2 (lo_S_isLost_3_37 a2 n37) rn3 rc3 sd rt ps sq kg x5 x7 s0 = some (rr, rn3', rc3', sd', rt', ps', sq', kg') → W p l e rm_S_isLost_3 s m ([.ref oS, .ref oP, .int a2, .int 3] : List Value).toArray below meth c H locs 0 0 Q (F0 m 137 ls [.int s0]) := by
        intro rn3 rc3 sd rt ps sq kg x5 x7 s0 H locs ls hl hP hD hS hf
        rw [bk_S_isLost_3_137] at hf
        refine lv_istore (lv' := [(6, .int s0), (0, .ref oS), (1, .ref oP), (2, .int a2), (3, .int 3), (4, .ref oR3), (5, .int x5), (7, .int x7)]) hx hb dd_S_isLost_137 hl (by decide) rfl (fun ls hl => ?_)
        obtain ⟨v3001, ev3001⟩ : ∃ z, z = x7 + 1 := ⟨_, rfl⟩
        replace hf := qq_lt ev3001 hf
        refine lv_iinc (k := 7) (v := v3001) (lv' := [(7, .int v3001), (6, .int s0), (0, .ref oS), (1, .ref oP), (2, .int a2), (3, .int 3), (4, .ref oR3), (5, .int x5)]) hx hb dd_S_isLost_139 hl rfl (by rw [ev3001]; exact congrArg _ (by decide)) (by decide) rfl (fun ls hl => ?_)
        refine lv_goto (tgt := 37) hx hb dd_S_isLost_142 (by decide) ?_
        exact ih37 rn3 rc3 sd rt ps sq kg x5 s0 v3001 _ _ _ (lv_sub hl [2, 3, 4, 5, 6, 7, 1, 0] rfl) hP hD hS hf
      have hJ132 : ∀ (rn3 : Int32) (rc3 : Nat → Int32) (sd : Int32) (rt : Int32) (ps : Int32) (sq : Nat → Int32) (kg : Nat → Int32) (x5 : Int32) (x7 : Int32) (H : Heap) (locs : List Loc) (ls : Array Slot), lv_has ls 11 [(0, .ref oS), (1, .ref oP), (2, .int a2), (3, .int 3), (4, .ref oR3), (5, .int x5), (7, .int x7)] → va_P (dC, dI) classes [(oS, .inr (4, [.ref orows])), (orows, .inl (cR, 4, .inr (.inr (.inr (.inr (qq_rows oR0 oR1 oR2 oR3)))))), (oR0, .inr (2, [.ref orc0, .int rn0])), (orc0, .inl (cI, 415, .inl rc0)), (oR1, .inr (2, [.ref orc1, .int rn1])), (orc1, .inl (cI, 415, .inl rc1)), (oR2, .inr (2, [.ref orc2, .int rn2])), (orc2, .inl (cI, 415, .inl rc2)), (oR3, .inr (2, [.ref orc3, .int rn3])), (orc3, .inl (cI, 415, .inl rc3)), (oP, .inr (1, [.ref osq, .ref okg, .int sd, .int rt, .int ps])), (osq, .inl (cI, 64, .inl sq)), (okg, .inl (cI, 2, .inl kg))] H → va_D A [(oS, .inr (4, [.ref orows])), (orows, .inl (cR, 4, .inr (.inr (.inr (.inr (qq_rows oR0 oR1 oR2 oR3)))))), (oR0, .inr (2, [.ref orc0, .int rn0])), (orc0, .inl (cI, 415, .inl rc0)), (oR1, .inr (2, [.ref orc1, .int rn1])), (orc1, .inl (cI, 415, .inl rc1)), (oR2, .inr (2, [.ref orc2, .int rn2])), (orc2, .inl (cI, 415, .inl rc2)), (oR3, .inr (2, [.ref orc3, .int rn3])), (orc3, .inl (cI, 415, .inl rc3)), (oP, .inr (1, [.ref osq, .ref okg, .int sd, .int rt, .int ps])), (osq, .inl (cI, 64, .inl sq)), (okg, .inl (cI, 2, .inl kg))] → va_S A s.heap H locs → bk_S_isLost_3_132 a2 (lo_S_isLost_3_37 a2 n37) rn3 rc3 sd rt ps sq kg x5 x7 = some (rr, rn3', rc3', sd', rt', ps', sq', kg') → W p l e rm_S_isLost_3 s m ([.ref oS, .ref oP, .int a2, .int 3] : List Value).toArray below meth c H locs 0 0 Q (F0 m 132 ls []) := by
        intro rn3 rc3 sd rt ps sq kg x5 x7 H locs ls hl hP hD hS hf
        rw [bk_S_isLost_3_132] at hf
        refine lv_iconst (v := 1) hx hb dd_S_isLost_132 (by decide) ?_
        refine lv_goto (tgt := 137) hx hb dd_S_isLost_133 (by decide) ?_
        exact hJ137 rn3 rc3 sd rt ps sq kg x5 x7 1 _ _ _ (lv_sub hl [0, 1, 2, 3, 4, 5, 6] rfl) hP hD hS hf
      have hJ99 : ∀ (rn3 : Int32) (rc3 : Nat → Int32) (sd : Int32) (rt : Int32) (ps : Int32) (sq : Nat → Int32) (kg : Nat → Int32) (x5 : Int32) (x6 : Int32) (x7 : Int32) (x8 : Int32) (x9 : Int32) (s0 : Int32) (H : Heap) (locs : List Loc) (ls : Array Slot), lv_has ls 11 [(0, .ref oS), (1, .ref oP), (2, .int a2), (3, .int 3), (4, .ref oR3), (5, .int x5), (6, .int x6), (7, .int x7), (8, .int x8), (9, .int x9)] → va_P (dC, dI) classes [(oS, .inr (4, [.ref orows])), (orows, .inl (cR, 4, .inr (.inr (.inr (.inr (qq_rows oR0 oR1 oR2 oR3)))))), (oR0, .inr (2, [.ref orc0, .int rn0])), (orc0, .inl (cI, 415, .inl rc0)), (oR1, .inr (2, [.ref orc1, .int rn1])), (orc1, .inl (cI, 415, .inl rc1)), (oR2, .inr (2, [.ref orc2, .int rn2])), (orc2, .inl (cI, 415, .inl rc2)), (oR3, .inr (2, [.ref orc3, .int rn3])), (orc3, .inl (cI, 415, .inl rc3)), (oP, .inr (1, [.ref osq, .ref okg, .int sd, .int rt, .int ps])), (osq, .inl (cI, 64, .inl sq)), (okg, .inl (cI, 2, .inl kg))] H → va_D A [(oS, .inr (4, [.ref orows])), (orows, .inl (cR, 4, .inr (.inr (.inr (.inr (qq_rows oR0 oR1 oR2 oR3)))))), (oR0, .inr (2, [.ref orc0, .int rn0])), (orc0, .inl (cI, 415, .inl rc0)), (oR1, .inr (2, [.ref orc1, .int rn1])), (orc1, .inl (cI, 415, .inl rc1)), (oR2, .inr (2, [.ref orc2, .int rn2])), (orc2, .inl (cI, 415, .inl rc2)), (oR3, .inr (2, [.ref orc3, .int rn3])), (orc3, .inl (cI, 415, .inl rc3)), (oP, .inr (1, [.ref osq, .ref okg, .int sd, .int rt, .int ps])), (osq, .inl (cI, 64, .inl sq)), (okg, .inl (cI, 2, .inl kg))] → va_S A s.heap H locs → bk_S_isLost_3_99 a2 (lo_S_isLost_3_37 a2 n37) rn3 rc3 sd rt ps sq kg x5 x6 x7 x8 x9 s0 = some (rr, rn3', rc3', sd', rt', ps', sq', kg') → W p l e rm_S_isLost_3 s m ([.ref oS, .ref oP, .int a2, .int 3] : List Value).toArray below meth c H locs 0 0 Q (F0 m 99 ls [.int s0]) := by
        intro rn3 rc3 sd rt ps sq kg x5 x6 x7 x8 x9 s0 H locs ls hl hP hD hS hf
        rw [bk_S_isLost_3_99] at hf
        refine lv_istore (lv' := [(10, .int s0), (0, .ref oS), (1, .ref oP), (2, .int a2), (3, .int 3), (4, .ref oR3), (5, .int x5), (6, .int x6), (7, .int x7), (8, .int x8), (9, .int x9)]) hx hb dd_S_isLost_99 hl (by decide) rfl (fun ls hl => ?_)
        refine lv_aload_n hx hb dd_S_isLost_101 rfl (lv_at hl 2 rfl) ?_
        refine lv_aload hx hb dd_S_isLost_102 (lv_at hl 5 rfl) ?_
        refine va_get (D := (dC, dI)) (ci := 2) (v := .ref orc3) (C := RR_W) (T := FF_W) (N := 2) hx hb hts uu_W hown hK hP 8 rfl rfl 0 (by decide) (hts _ mm_361) (fun _ h9 => h9) rfl dd_S_isLost_104 ?_
        refine lv_iload hx hb dd_S_isLost_107 (lv_at hl 8 rfl) ?_
        obtain ⟨hi5001, hf⟩ := qq_ckE hf
        refine va_iald (D := (dC, dI)) (f := rc3) (n := 415) (cA := cI) hx hb hK hP 9 0 rfl rfl (qq_inE hi5001) dd_S_isLost_109 ?_
        refine lv_iload hx hb dd_S_isLost_110 (lv_at hl 9 rfl) ?_
        obtain ⟨⟨sd_5002, rt_5003, ps_5004, sq_5005, kg_5006⟩, hy5006, hf⟩ := qq_bd hf
        dsimp only at hf
        refine qq_V (As := [.int (rc3 x7.toNatClampNeg), .int x8]) (rest := []) (wr := [(oS, .inr (4, [.ref orows])), (orows, .inl (cR, 4, .inr (.inr (.inr (.inr (qq_rows oR0 oR1 oR2 oR3)))))), (oR0, .inr (2, [.ref orc0, .int rn0])), (orc0, .inl (cI, 415, .inl rc0)), (oR1, .inr (2, [.ref orc1, .int rn1])), (orc1, .inl (cI, 415, .inl rc1)), (oR2, .inr (2, [.ref orc2, .int rn2])), (orc2, .inl (cI, 415, .inl rc2)), (oR3, .inr (2, [.ref orc3, .int rn3])), (orc3, .inl (cI, 415, .inl rc3))]) (wf := [(oS, .inr (4, [.ref orows])), (orows, .inl (cR, 4, .inr (.inr (.inr (.inr (qq_rows oR0 oR1 oR2 oR3)))))), (oR0, .inr (2, [.ref orc0, .int rn0])), (orc0, .inl (cI, 415, .inl rc0)), (oR1, .inr (2, [.ref orc1, .int rn1])), (orc1, .inl (cI, 415, .inl rc1)), (oR2, .inr (2, [.ref orc2, .int rn2])), (orc2, .inl (cI, 415, .inl rc2)), (oR3, .inr (2, [.ref orc3, .int rn3])), (orc3, .inl (cI, 415, .inl rc3)), (oP, .inr (1, [.ref osq, .ref okg, .int sd_5002, .int rt_5003, .int ps_5004])), (osq, .inl (cI, 64, .inl sq_5005)), (okg, .inl (cI, 2, .inl kg_5006))]) ⟨hx, hb, hml, hown, hts⟩ (ct_P_takeBack l dC dI cI cL cR oP osq okg sd rt ps sq kg (rc3 x7.toNatClampNeg) x8 hy5006) mm_362 mm_128 mm_129 mm_126 mm_15 hd_P_takeBack (by decide) qq_00 hP hD hK hS hA hT hN (q0 := 10) (ci := 1) rfl rfl [10, 11, 12] [0, 1, 2, 3, 4, 5, 6, 7, 8, 9] [0, 1, 2, 3, 4, 5, 6, 7, 8, 9, 10, 11, 12] rfl rfl rfl (by decide) rfl hl.1 rfl (Nat.le_of_ble_eq_true rfl) dd_S_isLost_112 (fun H locs hP hD hS => ?_)
        refine W.eq (g2 := F0 m 115 ls []) rfl ?_
        refine lv_iload hx hb dd_S_isLost_115 (lv_at hl 0 rfl) ?_
        refine lv_if_eq (tgt := 122) hx hb dd_S_isLost_117 (by decide) (fun hc => ?_) (fun hc => ?_)
        · replace hf := qq_t hc hf
          refine lv_iload hx hb dd_S_isLost_122 (lv_at hl 7 rfl) ?_
          refine lv_if_ne (tgt := 132) hx hb dd_S_isLost_124 (by decide) (fun hc => ?_) (fun hc => ?_)
          · replace hf := qq_f hc hf
            exact hJ132 rn3 rc3 sd_5002 rt_5003 ps_5004 sq_5005 kg_5006 x5 x7 _ _ _ (lv_sub hl [1, 2, 3, 4, 5, 6, 8] rfl) hP hD hS hf
          · replace hf := qq_t hc hf
            refine lv_iload hx hb dd_S_isLost_127 (lv_at hl 10 rfl) ?_
            refine lv_if_eq (tgt := 136) hx hb dd_S_isLost_129 (by decide) (fun hc => ?_) (fun hc => ?_)
            · replace hf := qq_t hc hf
              refine lv_iconst (v := 0) hx hb dd_S_isLost_136 (by decide) ?_
              exact hJ137 rn3 rc3 sd_5002 rt_5003 ps_5004 sq_5005 kg_5006 x5 x7 0 _ _ _ (lv_sub hl [1, 2, 3, 4, 5, 6, 8] rfl) hP hD hS hf
            · replace hf := qq_f hc hf
              exact hJ132 rn3 rc3 sd_5002 rt_5003 ps_5004 sq_5005 kg_5006 x5 x7 _ _ _ (lv_sub hl [1, 2, 3, 4, 5, 6, 8] rfl) hP hD hS hf
        · replace hf := qq_f hc hf
          refine lv_iconst (v := 0) hx hb dd_S_isLost_120 (by decide) ?_
          cases hf
          exact qq_zret hx hb hr rfl hlocks hQ hP hD hK hS dd_S_isLost_121
      have hJ98 : ∀ (rn3 : Int32) (rc3 : Nat → Int32) (sd : Int32) (rt : Int32) (ps : Int32) (sq : Nat → Int32) (kg : Nat → Int32) (x5 : Int32) (x6 : Int32) (x7 : Int32) (x8 : Int32) (x9 : Int32) (H : Heap) (locs : List Loc) (ls : Array Slot), lv_has ls 11 [(0, .ref oS), (1, .ref oP), (2, .int a2), (3, .int 3), (4, .ref oR3), (5, .int x5), (6, .int x6), (7, .int x7), (8, .int x8), (9, .int x9)] → va_P (dC, dI) classes [(oS, .inr (4, [.ref orows])), (orows, .inl (cR, 4, .inr (.inr (.inr (.inr (qq_rows oR0 oR1 oR2 oR3)))))), (oR0, .inr (2, [.ref orc0, .int rn0])), (orc0, .inl (cI, 415, .inl rc0)), (oR1, .inr (2, [.ref orc1, .int rn1])), (orc1, .inl (cI, 415, .inl rc1)), (oR2, .inr (2, [.ref orc2, .int rn2])), (orc2, .inl (cI, 415, .inl rc2)), (oR3, .inr (2, [.ref orc3, .int rn3])), (orc3, .inl (cI, 415, .inl rc3)), (oP, .inr (1, [.ref osq, .ref okg, .int sd, .int rt, .int ps])), (osq, .inl (cI, 64, .inl sq)), (okg, .inl (cI, 2, .inl kg))] H → va_D A [(oS, .inr (4, [.ref orows])), (orows, .inl (cR, 4, .inr (.inr (.inr (.inr (qq_rows oR0 oR1 oR2 oR3)))))), (oR0, .inr (2, [.ref orc0, .int rn0])), (orc0, .inl (cI, 415, .inl rc0)), (oR1, .inr (2, [.ref orc1, .int rn1])), (orc1, .inl (cI, 415, .inl rc1)), (oR2, .inr (2, [.ref orc2, .int rn2])), (orc2, .inl (cI, 415, .inl rc2)), (oR3, .inr (2, [.ref orc3, .int rn3])), (orc3, .inl (cI, 415, .inl rc3)), (oP, .inr (1, [.ref osq, .ref okg, .int sd, .int rt, .int ps])), (osq, .inl (cI, 64, .inl sq)), (okg, .inl (cI, 2, .inl kg))] → va_S A s.heap H locs → bk_S_isLost_3_98 a2 (lo_S_isLost_3_37 a2 n37) rn3 rc3 sd rt ps sq kg x5 x6 x7 x8 x9 = some (rr, rn3', rc3', sd', rt', ps', sq', kg') → W p l e rm_S_isLost_3 s m ([.ref oS, .ref oP, .int a2, .int 3] : List Value).toArray below meth c H locs 0 0 Q (F0 m 98 ls []) := by
        intro rn3 rc3 sd rt ps sq kg x5 x6 x7 x8 x9 H locs ls hl hP hD hS hf
        rw [bk_S_isLost_3_98] at hf
        refine lv_iconst (v := 0) hx hb dd_S_isLost_98 (by decide) ?_
        exact hJ99 rn3 rc3 sd rt ps sq kg x5 x6 x7 x8 x9 0 _ _ _ (lv_sub hl [0, 1, 2, 3, 4, 5, 6, 7, 8, 9] rfl) hP hD hS hf
      have hJ75 : ∀ (rn3 : Int32) (rc3 : Nat → Int32) (sd : Int32) (rt : Int32) (ps : Int32) (sq : Nat → Int32) (kg : Nat → Int32) (x5 : Int32) (x6 : Int32) (x7 : Int32) (x8 : Int32) (s0 : Int32) (H : Heap) (locs : List Loc) (ls : Array Slot), lv_has ls 11 [(0, .ref oS), (1, .ref oP), (2, .int a2), (3, .int 3), (4, .ref oR3), (5, .int x5), (6, .int x6), (7, .int x7), (8, .int x8)] → va_P (dC, dI) classes [(oS, .inr (4, [.ref orows])), (orows, .inl (cR, 4, .inr (.inr (.inr (.inr (qq_rows oR0 oR1 oR2 oR3)))))), (oR0, .inr (2, [.ref orc0, .int rn0])), (orc0, .inl (cI, 415, .inl rc0)), (oR1, .inr (2, [.ref orc1, .int rn1])), (orc1, .inl (cI, 415, .inl rc1)), (oR2, .inr (2, [.ref orc2, .int rn2])), (orc2, .inl (cI, 415, .inl rc2)), (oR3, .inr (2, [.ref orc3, .int rn3])), (orc3, .inl (cI, 415, .inl rc3)), (oP, .inr (1, [.ref osq, .ref okg, .int sd, .int rt, .int ps])), (osq, .inl (cI, 64, .inl sq)), (okg, .inl (cI, 2, .inl kg))] H → va_D A [(oS, .inr (4, [.ref orows])), (orows, .inl (cR, 4, .inr (.inr (.inr (.inr (qq_rows oR0 oR1 oR2 oR3)))))), (oR0, .inr (2, [.ref orc0, .int rn0])), (orc0, .inl (cI, 415, .inl rc0)), (oR1, .inr (2, [.ref orc1, .int rn1])), (orc1, .inl (cI, 415, .inl rc1)), (oR2, .inr (2, [.ref orc2, .int rn2])), (orc2, .inl (cI, 415, .inl rc2)), (oR3, .inr (2, [.ref orc3, .int rn3])), (orc3, .inl (cI, 415, .inl rc3)), (oP, .inr (1, [.ref osq, .ref okg, .int sd, .int rt, .int ps])), (osq, .inl (cI, 64, .inl sq)), (okg, .inl (cI, 2, .inl kg))] → va_S A s.heap H locs → bk_S_isLost_3_75 a2 (lo_S_isLost_3_37 a2 n37) rn3 rc3 sd rt ps sq kg x5 x6 x7 x8 s0 = some (rr, rn3', rc3', sd', rt', ps', sq', kg') → W p l e rm_S_isLost_3 s m ([.ref oS, .ref oP, .int a2, .int 3] : List Value).toArray below meth c H locs 0 0 Q (F0 m 75 ls [.int s0]) := by
        intro rn3 rc3 sd rt ps sq kg x5 x6 x7 x8 s0 H locs ls hl hP hD hS hf
        rw [bk_S_isLost_3_75] at hf
        refine lv_istore (lv' := [(9, .int s0), (0, .ref oS), (1, .ref oP), (2, .int a2), (3, .int 3), (4, .ref oR3), (5, .int x5), (6, .int x6), (7, .int x7), (8, .int x8)]) hx hb dd_S_isLost_75 hl (by decide) rfl (fun ls hl => ?_)
        refine lv_iload hx hb dd_S_isLost_77 (lv_at hl 0 rfl) ?_
        refine lv_if_eq (tgt := 98) hx hb dd_S_isLost_79 (by decide) (fun hc => ?_) (fun hc => ?_)
        · replace hf := qq_t hc hf
          exact hJ98 rn3 rc3 sd rt ps sq kg x5 x6 x7 x8 s0 _ _ _ (lv_sub hl [1, 2, 3, 4, 5, 6, 7, 8, 9, 0] rfl) hP hD hS hf
        · replace hf := qq_f hc hf
          refine lv_aload_n hx hb dd_S_isLost_82 rfl (lv_at hl 1 rfl) ?_
          refine lv_aload_n hx hb dd_S_isLost_83 rfl (lv_at hl 2 rfl) ?_
          refine lv_iload_n hx hb dd_S_isLost_84 rfl (lv_at hl 3 rfl) ?_
          refine lv_iload_n hx hb dd_S_isLost_85 rfl (lv_at hl 4 rfl) ?_
          refine lv_iconst (v := 1) hx hb dd_S_isLost_86 (by decide) ?_
          refine lv_iadd hx hb dd_S_isLost_87 ?_
          refine lv_topi (fun v7001 ev7001 => ?_)
          have ev7001 : v7001 = 4 := by rw [ev7001]; decide
          subst ev7001
          obtain ⟨r7002, hy7002, hf⟩ := qq_bd hf
          refine qq_V (As := [.ref oP, .int a2, .int 4]) (rest := []) (wr := []) (wf := [(oS, .inr (4, [.ref orows])), (orows, .inl (cR, 4, .inr (.inr (.inr (.inr (qq_rows oR0 oR1 oR2 oR3)))))), (oR0, .inr (2, [.ref orc0, .int rn0])), (orc0, .inl (cI, 415, .inl rc0)), (oR1, .inr (2, [.ref orc1, .int rn1])), (orc1, .inl (cI, 415, .inl rc1)), (oR2, .inr (2, [.ref orc2, .int rn2])), (orc2, .inl (cI, 415, .inl rc2)), (oR3, .inr (2, [.ref orc3, .int rn3])), (orc3, .inl (cI, 415, .inl rc3)), (oP, .inr (1, [.ref osq, .ref okg, .int sd, .int rt, .int ps])), (osq, .inl (cI, 64, .inl sq)), (okg, .inl (cI, 2, .inl kg))]) ⟨hx, hb, hml, hown, hts⟩ (ct_S_forcesMate_4 l dC dI cI cL cR oS orows oR0 orc0 oR1 orc1 oR2 orc2 oR3 orc3 oP osq okg rn0 rc0 rn1 rc1 rn2 rc2 rn3 rc3 sd rt ps sq kg a2 hy7002) mm_365 mm_366 mm_367 mm_363 mm_364 hd_S_forcesMate (by decide) qq_00 hP hD hK hS hA hT hN (q0 := 0) (ci := 4) rfl rfl [0, 1, 2, 3, 4, 5, 6, 7, 8, 9, 10, 11, 12] [] [0, 1, 2, 3, 4, 5, 6, 7, 8, 9, 10, 11, 12] rfl rfl rfl (by decide) rfl hl.1 rfl (Nat.le_of_ble_eq_true rfl) dd_S_isLost_88 (fun H locs hP hD hS => ?_)
          refine W.eq (g2 := F0 m 91 ls [.int r7002]) rfl ?_
          refine lv_if_ne (tgt := 98) hx hb dd_S_isLost_91 (by decide) (fun hc => ?_) (fun hc => ?_)
          · replace hf := qq_f hc hf
            exact hJ98 rn3 rc3 sd rt ps sq kg x5 x6 x7 x8 s0 _ _ _ (lv_sub hl [1, 2, 3, 4, 5, 6, 7, 8, 9, 0] rfl) hP hD hS hf
          · replace hf := qq_t hc hf
            refine lv_iconst (v := 1) hx hb dd_S_isLost_94 (by decide) ?_
            refine lv_goto (tgt := 99) hx hb dd_S_isLost_95 (by decide) ?_
            exact hJ99 rn3 rc3 sd rt ps sq kg x5 x6 x7 x8 s0 1 _ _ _ (lv_sub hl [1, 2, 3, 4, 5, 6, 7, 8, 9, 0] rfl) hP hD hS hf
      intro rn3 rc3 sd rt ps sq kg x5 x6 x7 H locs ls hl hP hD hS hf
      rw [lo_S_isLost_3_37_s] at hf
      refine lv_iload hx hb dd_S_isLost_37 (lv_at hl 7 rfl) ?_
      refine lv_aload hx hb dd_S_isLost_39 (lv_at hl 4 rfl) ?_
      refine va_get (D := (dC, dI)) (ci := 2) (v := .int rn3) (C := RR_W) (T := FF_W) (N := 2) hx hb hts uu_W hown hK hP 8 rfl rfl 1 (by decide) (hts _ mm_368) (fun _ h9 => h9) rfl dd_S_isLost_41 ?_
      refine lv_icmp_ge (tgt := 145) hx hb dd_S_isLost_44 (by decide) (fun hc => ?_) (fun hc => ?_)
      · replace hf := qq_t hc hf
        refine lv_iload hx hb dd_S_isLost_145 (lv_at hl 6 rfl) ?_
        refine lv_if_ne (tgt := 159) hx hb dd_S_isLost_147 (by decide) (fun hc => ?_) (fun hc => ?_)
        · replace hf := qq_f hc hf
          exact hJ159 rn3 rc3 sd rt ps sq kg _ _ _ (lv_sub hl [] rfl) hP hD hS hf
        · replace hf := qq_t hc hf
          refine lv_aload_n hx hb dd_S_isLost_150 rfl (lv_at hl 1 rfl) ?_
          refine lv_iload hx hb dd_S_isLost_151 (lv_at hl 5 rfl) ?_
          obtain ⟨r8001, hy8001, hf⟩ := qq_bd hf
          refine qq_V (As := [.int x5]) (rest := []) (wr := [(oS, .inr (4, [.ref orows])), (orows, .inl (cR, 4, .inr (.inr (.inr (.inr (qq_rows oR0 oR1 oR2 oR3)))))), (oR0, .inr (2, [.ref orc0, .int rn0])), (orc0, .inl (cI, 415, .inl rc0)), (oR1, .inr (2, [.ref orc1, .int rn1])), (orc1, .inl (cI, 415, .inl rc1)), (oR2, .inr (2, [.ref orc2, .int rn2])), (orc2, .inl (cI, 415, .inl rc2)), (oR3, .inr (2, [.ref orc3, .int rn3])), (orc3, .inl (cI, 415, .inl rc3))]) (wf := [(oS, .inr (4, [.ref orows])), (orows, .inl (cR, 4, .inr (.inr (.inr (.inr (qq_rows oR0 oR1 oR2 oR3)))))), (oR0, .inr (2, [.ref orc0, .int rn0])), (orc0, .inl (cI, 415, .inl rc0)), (oR1, .inr (2, [.ref orc1, .int rn1])), (orc1, .inl (cI, 415, .inl rc1)), (oR2, .inr (2, [.ref orc2, .int rn2])), (orc2, .inl (cI, 415, .inl rc2)), (oR3, .inr (2, [.ref orc3, .int rn3])), (orc3, .inl (cI, 415, .inl rc3)), (oP, .inr (1, [.ref osq, .ref okg, .int sd, .int rt, .int ps])), (osq, .inl (cI, 64, .inl sq)), (okg, .inl (cI, 2, .inl kg))]) ⟨hx, hb, hml, hown, hts⟩ (ct_P_isInCheck l dC dI cI cL cR oP osq okg sd rt ps sq kg x5 hy8001) mm_370 mm_371 mm_372 mm_369 mm_15 hd_P_isInCheck (by decide) qq_00 hP hD hK hS hA hT hN (q0 := 10) (ci := 1) rfl rfl [10, 11, 12] [0, 1, 2, 3, 4, 5, 6, 7, 8, 9] [0, 1, 2, 3, 4, 5, 6, 7, 8, 9, 10, 11, 12] rfl rfl rfl (by decide) rfl hl.1 rfl (Nat.le_of_ble_eq_true rfl) dd_S_isLost_153 (fun H locs hP hD hS => ?_)
          refine W.eq (g2 := F0 m 156 ls [.int r8001]) rfl ?_
          refine lv_if_eq (tgt := 163) hx hb dd_S_isLost_156 (by decide) (fun hc => ?_) (fun hc => ?_)
          · replace hf := qq_t hc hf
            refine lv_iconst (v := 0) hx hb dd_S_isLost_163 (by decide) ?_
            exact hJ164 rn3 rc3 sd rt ps sq kg 0 _ _ _ (lv_sub hl [] rfl) hP hD hS hf
          · replace hf := qq_f hc hf
            exact hJ159 rn3 rc3 sd rt ps sq kg _ _ _ (lv_sub hl [] rfl) hP hD hS hf
      · replace hf := qq_f hc hf
        refine lv_aload_n hx hb dd_S_isLost_47 rfl (lv_at hl 1 rfl) ?_
        refine lv_aload hx hb dd_S_isLost_48 (lv_at hl 4 rfl) ?_
        refine va_get (D := (dC, dI)) (ci := 2) (v := .ref orc3) (C := RR_W) (T := FF_W) (N := 2) hx hb hts uu_W hown hK hP 8 rfl rfl 0 (by decide) (hts _ mm_361) (fun _ h9 => h9) rfl dd_S_isLost_50 ?_
        refine lv_iload hx hb dd_S_isLost_53 (lv_at hl 7 rfl) ?_
        obtain ⟨hi8002, hf⟩ := qq_ckE hf
        refine va_iald (D := (dC, dI)) (f := rc3) (n := 415) (cA := cI) hx hb hK hP 9 0 rfl rfl (qq_inE hi8002) dd_S_isLost_55 ?_
        obtain ⟨⟨r8003, sd_8004, rt_8005, ps_8006, sq_8007, kg_8008⟩, hy8008, hf⟩ := qq_bd hf
        dsimp only at hf
        refine qq_V (As := [.int (rc3 x7.toNatClampNeg)]) (rest := []) (wr := [(oS, .inr (4, [.ref orows])), (orows, .inl (cR, 4, .inr (.inr (.inr (.inr (qq_rows oR0 oR1 oR2 oR3)))))), (oR0, .inr (2, [.ref orc0, .int rn0])), (orc0, .inl (cI, 415, .inl rc0)), (oR1, .inr (2, [.ref orc1, .int rn1])), (orc1, .inl (cI, 415, .inl rc1)), (oR2, .inr (2, [.ref orc2, .int rn2])), (orc2, .inl (cI, 415, .inl rc2)), (oR3, .inr (2, [.ref orc3, .int rn3])), (orc3, .inl (cI, 415, .inl rc3))]) (wf := [(oS, .inr (4, [.ref orows])), (orows, .inl (cR, 4, .inr (.inr (.inr (.inr (qq_rows oR0 oR1 oR2 oR3)))))), (oR0, .inr (2, [.ref orc0, .int rn0])), (orc0, .inl (cI, 415, .inl rc0)), (oR1, .inr (2, [.ref orc1, .int rn1])), (orc1, .inl (cI, 415, .inl rc1)), (oR2, .inr (2, [.ref orc2, .int rn2])), (orc2, .inl (cI, 415, .inl rc2)), (oR3, .inr (2, [.ref orc3, .int rn3])), (orc3, .inl (cI, 415, .inl rc3)), (oP, .inr (1, [.ref osq, .ref okg, .int sd_8004, .int rt_8005, .int ps_8006])), (osq, .inl (cI, 64, .inl sq_8007)), (okg, .inl (cI, 2, .inl kg_8008))]) ⟨hx, hb, hml, hown, hts⟩ (ct_P_play l dC dI cI cL cR oP osq okg sd rt ps sq kg (rc3 x7.toNatClampNeg) hy8008) mm_373 mm_132 mm_133 mm_130 mm_15 hd_P_play (by decide) qq_00 hP hD hK hS hA hT hN (q0 := 10) (ci := 1) rfl rfl [10, 11, 12] [0, 1, 2, 3, 4, 5, 6, 7, 8, 9] [0, 1, 2, 3, 4, 5, 6, 7, 8, 9, 10, 11, 12] rfl rfl rfl (by decide) rfl hl.1 rfl (Nat.le_of_ble_eq_true rfl) dd_S_isLost_56 (fun H locs hP hD hS => ?_)
        refine W.eq (g2 := F0 m 59 ls [.int r8003]) rfl ?_
        refine lv_istore (lv' := [(8, .int r8003), (0, .ref oS), (1, .ref oP), (2, .int a2), (3, .int 3), (4, .ref oR3), (5, .int x5), (6, .int x6), (7, .int x7)]) hx hb dd_S_isLost_59 hl (by decide) rfl (fun ls hl => ?_)
        refine lv_aload_n hx hb dd_S_isLost_61 rfl (lv_at hl 2 rfl) ?_
        refine lv_iload hx hb dd_S_isLost_62 (lv_at hl 6 rfl) ?_
        obtain ⟨r8009, hy8009, hf⟩ := qq_bd hf
        refine qq_V (As := [.int x5]) (rest := []) (wr := [(oS, .inr (4, [.ref orows])), (orows, .inl (cR, 4, .inr (.inr (.inr (.inr (qq_rows oR0 oR1 oR2 oR3)))))), (oR0, .inr (2, [.ref orc0, .int rn0])), (orc0, .inl (cI, 415, .inl rc0)), (oR1, .inr (2, [.ref orc1, .int rn1])), (orc1, .inl (cI, 415, .inl rc1)), (oR2, .inr (2, [.ref orc2, .int rn2])), (orc2, .inl (cI, 415, .inl rc2)), (oR3, .inr (2, [.ref orc3, .int rn3])), (orc3, .inl (cI, 415, .inl rc3))]) (wf := [(oS, .inr (4, [.ref orows])), (orows, .inl (cR, 4, .inr (.inr (.inr (.inr (qq_rows oR0 oR1 oR2 oR3)))))), (oR0, .inr (2, [.ref orc0, .int rn0])), (orc0, .inl (cI, 415, .inl rc0)), (oR1, .inr (2, [.ref orc1, .int rn1])), (orc1, .inl (cI, 415, .inl rc1)), (oR2, .inr (2, [.ref orc2, .int rn2])), (orc2, .inl (cI, 415, .inl rc2)), (oR3, .inr (2, [.ref orc3, .int rn3])), (orc3, .inl (cI, 415, .inl rc3)), (oP, .inr (1, [.ref osq, .ref okg, .int sd_8004, .int rt_8005, .int ps_8006])), (osq, .inl (cI, 64, .inl sq_8007)), (okg, .inl (cI, 2, .inl kg_8008))]) ⟨hx, hb, hml, hown, hts⟩ (ct_P_isInCheck l dC dI cI cL cR oP osq okg sd_8004 rt_8005 ps_8006 sq_8007 kg_8008 x5 hy8009) mm_370 mm_371 mm_372 mm_369 mm_15 hd_P_isInCheck (by decide) qq_00 hP hD hK hS hA hT hN (q0 := 10) (ci := 1) rfl rfl [10, 11, 12] [0, 1, 2, 3, 4, 5, 6, 7, 8, 9] [0, 1, 2, 3, 4, 5, 6, 7, 8, 9, 10, 11, 12] rfl rfl rfl (by decide) rfl hl.1 rfl (Nat.le_of_ble_eq_true rfl) dd_S_isLost_64 (fun H locs hP hD hS => ?_)
        refine W.eq (g2 := F0 m 67 ls [.int r8009]) rfl ?_
        refine lv_if_ne (tgt := 74) hx hb dd_S_isLost_67 (by decide) (fun hc => ?_) (fun hc => ?_)
        · replace hf := qq_f hc hf
          refine lv_iconst (v := 0) hx hb dd_S_isLost_74 (by decide) ?_
          exact hJ75 rn3 rc3 sd_8004 rt_8005 ps_8006 sq_8007 kg_8008 x5 x6 x7 r8003 0 _ _ _ (lv_sub hl [1, 2, 3, 4, 5, 6, 7, 8, 0] rfl) hP hD hS hf
        · replace hf := qq_t hc hf
          refine lv_iconst (v := 1) hx hb dd_S_isLost_70 (by decide) ?_
          refine lv_goto (tgt := 75) hx hb dd_S_isLost_71 (by decide) ?_
          exact hJ75 rn3 rc3 sd_8004 rt_8005 ps_8006 sq_8007 kg_8008 x5 x6 x7 r8003 1 _ _ _ (lv_sub hl [1, 2, 3, 4, 5, 6, 7, 8, 0] rfl) hP hD hS hf
  rw [fn_S_isLost_3] at hf
  refine lv_iload_n hx hb dd_S_isLost_0 rfl (lv_at hl 3 rfl) ?_
  refine lv_aload_n hx hb dd_S_isLost_1 rfl (lv_at hl 0 rfl) ?_
  refine va_get (D := (dC, dI)) (ci := 4) (v := .ref orows) (C := RR_S) (T := FF_S) (N := 1) hx hb hts uu_S hown hK hP 0 rfl rfl 0 (by decide) (hts _ mm_360) (fun _ h9 => h9) rfl dd_S_isLost_2 ?_
  refine va_alen (D := (dC, dI)) (v := 4) hx hb hK hP 1 2 rfl rfl rfl dd_S_isLost_5 ?_
  refine lv_icmp_lt (tgt := 11) hx hb dd_S_isLost_6 (by decide) (fun hc => ?_) (fun hc => absurd hc (by decide))
  refine lv_aload_n hx hb dd_S_isLost_11 rfl (lv_at hl 0 rfl) ?_
  refine va_get (D := (dC, dI)) (ci := 4) (v := .ref orows) (C := RR_S) (T := FF_S) (N := 1) hx hb hts uu_S hown hK hP 0 rfl rfl 0 (by decide) (hts _ mm_360) (fun _ h9 => h9) rfl dd_S_isLost_12 ?_
  refine lv_iload_n hx hb dd_S_isLost_15 rfl (lv_at hl 3 rfl) ?_
  refine va_aldq (D := (dC, dI)) (f := qq_rows oR0 oR1 oR2 oR3) (n := 4) (cA := cR) (C := RR_W) hx hb hK hP 1 2 rfl rfl (qq_inE (by decide)) dd_S_isLost_16 ?_
  refine W.eq (g2 := F0 m 17 ls [.ref oR3]) rfl ?_
  refine lv_astore (lv' := [(4, .ref oR3), (0, .ref oS), (1, .ref oP), (2, .int a2), (3, .int 3)]) hx hb dd_S_isLost_17 hl (by decide) rfl (fun ls hl => ?_)
  refine lv_aload_n hx hb dd_S_isLost_19 rfl (lv_at hl 2 rfl) ?_
  refine lv_aload hx hb dd_S_isLost_20 (lv_at hl 0 rfl) ?_
  obtain ⟨⟨rn3_1, rc3_2⟩, hy2, hf⟩ := qq_bd hf
  dsimp only at hf
  refine qq_V (As := [.ref oR3]) (rest := []) (wr := [(oS, .inr (4, [.ref orows])), (orows, .inl (cR, 4, .inr (.inr (.inr (.inr (qq_rows oR0 oR1 oR2 oR3)))))), (oR0, .inr (2, [.ref orc0, .int rn0])), (orc0, .inl (cI, 415, .inl rc0)), (oR1, .inr (2, [.ref orc1, .int rn1])), (orc1, .inl (cI, 415, .inl rc1)), (oR2, .inr (2, [.ref orc2, .int rn2])), (orc2, .inl (cI, 415, .inl rc2))]) (wf := [(oS, .inr (4, [.ref orows])), (orows, .inl (cR, 4, .inr (.inr (.inr (.inr (qq_rows oR0 oR1 oR2 oR3)))))), (oR0, .inr (2, [.ref orc0, .int rn0])), (orc0, .inl (cI, 415, .inl rc0)), (oR1, .inr (2, [.ref orc1, .int rn1])), (orc1, .inl (cI, 415, .inl rc1)), (oR2, .inr (2, [.ref orc2, .int rn2])), (orc2, .inl (cI, 415, .inl rc2)), (oR3, .inr (2, [.ref orc3, .int rn3_1])), (orc3, .inl (cI, 415, .inl rc3_2)), (oP, .inr (1, [.ref osq, .ref okg, .int sd, .int rt, .int ps])), (osq, .inl (cI, 64, .inl sq)), (okg, .inl (cI, 2, .inl kg))]) ⟨hx, hb, hml, hown, hts⟩ (ct_P_listCandidates l dC dI cI cL cR oP osq okg oR3 orc3 sd rt ps sq kg rn3 rc3 hy2) mm_374 mm_141 mm_142 mm_139 mm_15 hd_P_listCandidates (by decide) qq_00 hP hD hK hS hA hT hN (q0 := 10) (ci := 1) rfl rfl [10, 11, 12, 8, 9] [0, 1, 2, 3, 4, 5, 6, 7] [0, 1, 2, 3, 4, 5, 6, 7, 11, 12, 8, 9, 10] rfl rfl rfl (by decide) rfl hl.1 rfl (Nat.le_of_ble_eq_true rfl) dd_S_isLost_22 (fun H locs hP hD hS => ?_)
  refine W.eq (g2 := F0 m 25 ls []) rfl ?_
  refine lv_aload_n hx hb dd_S_isLost_25 rfl (lv_at hl 2 rfl) ?_
  refine va_get (D := (dC, dI)) (ci := 1) (v := .int sd) (C := RR_P) (T := FF_P) (N := 5) hx hb hts uu_P hown hK hP 10 rfl rfl 2 (by decide) (hts _ mm_375) (fun _ h9 => h9) rfl dd_S_isLost_26 ?_
  refine lv_istore (lv' := [(5, .int sd), (4, .ref oR3), (0, .ref oS), (1, .ref oP), (2, .int a2), (3, .int 3)]) hx hb dd_S_isLost_29 hl (by decide) rfl (fun ls hl => ?_)
  refine lv_iconst (v := 0) hx hb dd_S_isLost_31 (by decide) ?_
  refine lv_istore (lv' := [(6, .int 0), (5, .int sd), (4, .ref oR3), (0, .ref oS), (1, .ref oP), (2, .int a2), (3, .int 3)]) hx hb dd_S_isLost_32 hl (by decide) rfl (fun ls hl => ?_)
  refine lv_iconst (v := 0) hx hb dd_S_isLost_34 (by decide) ?_
  refine lv_istore (lv' := [(7, .int 0), (6, .int 0), (5, .int sd), (4, .ref oR3), (0, .ref oS), (1, .ref oP), (2, .int a2), (3, .int 3)]) hx hb dd_S_isLost_35 hl (by decide) rfl (fun ls hl => ?_)
  exact hL37 qq_FU rn3_1 rc3_2 sd rt ps sq kg sd 0 0 _ _ _ (lv_sub hl [4, 5, 6, 7, 3, 2, 1, 0] rfl) hP hD hS hf
theorem dd_S_forcesMate_15 : decode bb_S_forcesMate 15 = .ok (.aload_n 0, 1) := by decide +kernel
theorem dd_S_forcesMate_16 : decode bb_S_forcesMate 16 = .ok (.getfield 10, 3) := by decide +kernel
theorem dd_S_forcesMate_19 : decode bb_S_forcesMate 19 = .ok (.iload_n 3, 1) := by decide +kernel
theorem dd_S_forcesMate_20 : decode bb_S_forcesMate 20 = .ok (.aaload, 1) := by decide +kernel
theorem dd_S_forcesMate_21 : decode bb_S_forcesMate 21 = .ok (.astore 4, 2) := by decide +kernel
theorem dd_S_forcesMate_23 : decode bb_S_forcesMate 23 = .ok (.aload_n 1, 1) := by decide +kernel
theorem dd_S_forcesMate_24 : decode bb_S_forcesMate 24 = .ok (.aload 4, 2) := by decide +kernel
theorem dd_S_forcesMate_26 : decode bb_S_forcesMate 26 = .ok (.invokevirtual 16, 3) := by decide +kernel
theorem dd_S_forcesMate_29 : decode bb_S_forcesMate 29 = .ok (.aload_n 1, 1) := by decide +kernel
theorem dd_S_forcesMate_30 : decode bb_S_forcesMate 30 = .ok (.getfield 22, 3) := by decide +kernel
theorem dd_S_forcesMate_33 : decode bb_S_forcesMate 33 = .ok (.istore 5, 2) := by decide +kernel
theorem dd_S_forcesMate_35 : decode bb_S_forcesMate 35 = .ok (.iconst 0, 1) := by decide +kernel
theorem dd_S_forcesMate_36 : decode bb_S_forcesMate 36 = .ok (.istore 6, 2) := by decide +kernel
theorem dd_S_forcesMate_38 : decode bb_S_forcesMate 38 = .ok (.iload 6, 2) := by decide +kernel
theorem dd_S_forcesMate_40 : decode bb_S_forcesMate 40 = .ok (.aload 4, 2) := by decide +kernel
theorem dd_S_forcesMate_42 : decode bb_S_forcesMate 42 = .ok (.getfield 26, 3) := by decide +kernel
theorem dd_S_forcesMate_45 : decode bb_S_forcesMate 45 = .ok (.if_icmp .ge 90, 3) := by decide +kernel
theorem dd_S_forcesMate_48 : decode bb_S_forcesMate 48 = .ok (.aload_n 1, 1) := by decide +kernel
theorem dd_S_forcesMate_49 : decode bb_S_forcesMate 49 = .ok (.aload 4, 2) := by decide +kernel
theorem dd_S_forcesMate_51 : decode bb_S_forcesMate 51 = .ok (.getfield 29, 3) := by decide +kernel
theorem dd_S_forcesMate_54 : decode bb_S_forcesMate 54 = .ok (.iload 6, 2) := by decide +kernel
theorem dd_S_forcesMate_56 : decode bb_S_forcesMate 56 = .ok (.iaload, 1) := by decide +kernel
theorem dd_S_forcesMate_57 : decode bb_S_forcesMate 57 = .ok (.invokevirtual 33, 3) := by decide +kernel
theorem dd_S_forcesMate_60 : decode bb_S_forcesMate 60 = .ok (.istore 7, 2) := by decide +kernel
theorem dd_S_forcesMate_62 : decode bb_S_forcesMate 62 = .ok (.iload_n 2, 1) := by decide +kernel
theorem dd_S_forcesMate_63 : decode bb_S_forcesMate 63 = .ok (.iconst 1, 1) := by decide +kernel
theorem dd_S_forcesMate_64 : decode bb_S_forcesMate 64 = .ok (.if_icmp .gt 14, 3) := by decide +kernel
theorem dd_S_forcesMate_67 : decode bb_S_forcesMate 67 = .ok (.aload_n 1, 1) := by decide +kernel
theorem dd_S_forcesMate_68 : decode bb_S_forcesMate 68 = .ok (.iconst 1, 1) := by decide +kernel
theorem dd_S_forcesMate_69 : decode bb_S_forcesMate 69 = .ok (.iload 5, 2) := by decide +kernel
theorem dd_S_forcesMate_71 : decode bb_S_forcesMate 71 = .ok (.isub, 1) := by decide +kernel
theorem dd_S_forcesMate_72 : decode bb_S_forcesMate 72 = .ok (.invokevirtual 37, 3) := by decide +kernel
theorem dd_S_forcesMate_75 : decode bb_S_forcesMate 75 = .ok (.ifCond .eq 30, 3) := by decide +kernel
theorem dd_S_forcesMate_78 : decode bb_S_forcesMate 78 = .ok (.aload_n 1, 1) := by decide +kernel
theorem dd_S_forcesMate_79 : decode bb_S_forcesMate 79 = .ok (.iload 5, 2) := by decide +kernel
theorem dd_S_forcesMate_81 : decode bb_S_forcesMate 81 = .ok (.invokevirtual 37, 3) := by decide +kernel
theorem dd_S_forcesMate_84 : decode bb_S_forcesMate 84 = .ok (.ifCond .ne 21, 3) := by decide +kernel
theorem dd_S_forcesMate_87 : decode bb_S_forcesMate 87 = .ok (.aload_n 0, 1) := by decide +kernel
theorem dd_S_forcesMate_88 : decode bb_S_forcesMate 88 = .ok (.aload_n 1, 1) := by decide +kernel
theorem dd_S_forcesMate_89 : decode bb_S_forcesMate 89 = .ok (.iload_n 2, 1) := by decide +kernel
theorem dd_S_forcesMate_90 : decode bb_S_forcesMate 90 = .ok (.iconst 1, 1) := by decide +kernel
theorem dd_S_forcesMate_91 : decode bb_S_forcesMate 91 = .ok (.isub, 1) := by decide +kernel
theorem dd_S_forcesMate_92 : decode bb_S_forcesMate 92 = .ok (.iload_n 3, 1) := by decide +kernel
theorem dd_S_forcesMate_93 : decode bb_S_forcesMate 93 = .ok (.iconst 1, 1) := by decide +kernel
theorem dd_S_forcesMate_94 : decode bb_S_forcesMate 94 = .ok (.iadd, 1) := by decide +kernel
theorem dd_S_forcesMate_95 : decode bb_S_forcesMate 95 = .ok (.invokevirtual 41, 3) := by decide +kernel
theorem dd_S_forcesMate_98 : decode bb_S_forcesMate 98 = .ok (.ifCond .eq 7, 3) := by decide +kernel
theorem dd_S_forcesMate_101 : decode bb_S_forcesMate 101 = .ok (.iconst 1, 1) := by decide +kernel
theorem dd_S_forcesMate_102 : decode bb_S_forcesMate 102 = .ok (.goto 4, 3) := by decide +kernel
theorem dd_S_forcesMate_105 : decode bb_S_forcesMate 105 = .ok (.iconst 0, 1) := by decide +kernel
theorem dd_S_forcesMate_106 : decode bb_S_forcesMate 106 = .ok (.istore 8, 2) := by decide +kernel
theorem dd_S_forcesMate_108 : decode bb_S_forcesMate 108 = .ok (.aload_n 1, 1) := by decide +kernel
theorem dd_S_forcesMate_109 : decode bb_S_forcesMate 109 = .ok (.aload 4, 2) := by decide +kernel
theorem dd_S_forcesMate_111 : decode bb_S_forcesMate 111 = .ok (.getfield 29, 3) := by decide +kernel
theorem dd_S_forcesMate_114 : decode bb_S_forcesMate 114 = .ok (.iload 6, 2) := by decide +kernel
theorem dd_S_forcesMate_116 : decode bb_S_forcesMate 116 = .ok (.iaload, 1) := by decide +kernel
theorem dd_S_forcesMate_117 : decode bb_S_forcesMate 117 = .ok (.iload 7, 2) := by decide +kernel
theorem dd_S_forcesMate_119 : decode bb_S_forcesMate 119 = .ok (.invokevirtual 45, 3) := by decide +kernel
theorem dd_S_forcesMate_122 : decode bb_S_forcesMate 122 = .ok (.iload 8, 2) := by decide +kernel
theorem dd_S_forcesMate_124 : decode bb_S_forcesMate 124 = .ok (.ifCond .eq 5, 3) := by decide +kernel
theorem dd_S_forcesMate_127 : decode bb_S_forcesMate 127 = .ok (.iconst 1, 1) := by decide +kernel
theorem dd_S_forcesMate_128 : decode bb_S_forcesMate 128 = .ok (.ireturn, 1) := by decide +kernel
theorem dd_S_forcesMate_129 : decode bb_S_forcesMate 129 = .ok (.iinc 6 1, 3) := by decide +kernel
theorem dd_S_forcesMate_132 : decode bb_S_forcesMate 132 = .ok (.goto (-94), 3) := by decide +kernel
theorem dd_S_forcesMate_135 : decode bb_S_forcesMate 135 = .ok (.iconst 0, 1) := by decide +kernel
theorem dd_S_forcesMate_136 : decode bb_S_forcesMate 136 = .ok (.ireturn, 1) := by decide +kernel
abbrev ty_S_forcesMate_2 : Type := Int32 × Int32 × (Nat → Int32) × Int32 × (Nat → Int32) × Int32 × Int32 × Int32 × (Nat → Int32) × (Nat → Int32)
noncomputable def bk_S_forcesMate_2_106 (a2 : Int32) (k38 : Int32 → (Nat → Int32) → Int32 → (Nat → Int32) → Int32 → Int32 → Int32 → (Nat → Int32) → (Nat → Int32) → Int32 → Int32 → Option ty_S_forcesMate_2) (rn2 : Int32) (rc2 : Nat → Int32) (rn3 : Int32) (rc3 : Nat → Int32) (sd : Int32) (rt : Int32) (ps : Int32) (sq : Nat → Int32) (kg : Nat → Int32) (x5 : Int32) (x6 : Int32) (x7 : Int32) (s0 : Int32) : Option ty_S_forcesMate_2 := qq_ck (qq_in x6 415) <| (fn_P_takeBack sd rt ps sq kg (rc2 x6.toNatClampNeg) x7).bind fun (sd_1002, rt_1003, ps_1004, sq_1005, kg_1006) => if s0 = 0 then (qq_let (x6 + 1) fun v1007 => k38 rn2 rc2 rn3 rc3 sd_1002 rt_1003 ps_1004 sq_1005 kg_1006 x5 v1007) else (some (1, rn2, rc2, rn3, rc3, sd_1002, rt_1003, ps_1004, sq_1005, kg_1006))
noncomputable def bk_S_forcesMate_2_105 (a2 : Int32) (k38 : Int32 → (Nat → Int32) → Int32 → (Nat → Int32) → Int32 → Int32 → Int32 → (Nat → Int32) → (Nat → Int32) → Int32 → Int32 → Option ty_S_forcesMate_2) (rn2 : Int32) (rc2 : Nat → Int32) (rn3 : Int32) (rc3 : Nat → Int32) (sd : Int32) (rt : Int32) (ps : Int32) (sq : Nat → Int32) (kg : Nat → Int32) (x5 : Int32) (x6 : Int32) (x7 : Int32) : Option ty_S_forcesMate_2 := bk_S_forcesMate_2_106 a2 k38 rn2 rc2 rn3 rc3 sd rt ps sq kg x5 x6 x7 0
noncomputable def bk_S_forcesMate_2_78 (a2 : Int32) (k38 : Int32 → (Nat → Int32) → Int32 → (Nat → Int32) → Int32 → Int32 → Int32 → (Nat → Int32) → (Nat → Int32) → Int32 → Int32 → Option ty_S_forcesMate_2) (rn2 : Int32) (rc2 : Nat → Int32) (rn3 : Int32) (rc3 : Nat → Int32) (sd : Int32) (rt : Int32) (ps : Int32) (sq : Nat → Int32) (kg : Nat → Int32) (x5 : Int32) (x6 : Int32) (x7 : Int32) : Option ty_S_forcesMate_2 := (fn_P_isInCheck sq kg x5).bind fun r3001 => if r3001 = 0 then ((fn_S_isLost_3 rn3 rc3 sd rt ps sq kg (a2 - 1)).bind fun (r3003, rn3_3004, rc3_3005, sd_3006, rt_3007, ps_3008, sq_3009, kg_3010) => if r3003 = 0 then (bk_S_forcesMate_2_105 a2 k38 rn2 rc2 rn3_3004 rc3_3005 sd_3006 rt_3007 ps_3008 sq_3009 kg_3010 x5 x6 x7) else (bk_S_forcesMate_2_106 a2 k38 rn2 rc2 rn3_3004 rc3_3005 sd_3006 rt_3007 ps_3008 sq_3009 kg_3010 x5 x6 x7 1)) else (bk_S_forcesMate_2_105 a2 k38 rn2 rc2 rn3 rc3 sd rt ps sq kg x5 x6 x7)
noncomputable def lo_S_forcesMate_2_38 (a2 : Int32) : Nat → Int32 → (Nat → Int32) → Int32 → (Nat → Int32) → Int32 → Int32 → Int32 → (Nat → Int32) → (Nat → Int32) → Int32 → Int32 → Option ty_S_forcesMate_2
  | 0, _, _, _, _, _, _, _, _, _, _, _ => none
  | n + 1, rn2, rc2, rn3, rc3, sd, rt, ps, sq, kg, x5, x6 => if rn2 ≤ x6 then (some (0, rn2, rc2, rn3, rc3, sd, rt, ps, sq, kg)) else (qq_ck (qq_in x6 415) <| (fn_P_play sd rt ps sq kg (rc2 x6.toNatClampNeg)).bind fun (r4002, sd_4003, rt_4004, ps_4005, sq_4006, kg_4007) => if 1 < a2 then (bk_S_forcesMate_2_78 a2 (lo_S_forcesMate_2_38 a2 n) rn2 rc2 rn3 rc3 sd_4003 rt_4004 ps_4005 sq_4006 kg_4007 x5 x6 r4002) else ((fn_P_isInCheck sq_4006 kg_4007 (1 - x5)).bind fun r4008 => if r4008 = 0 then (bk_S_forcesMate_2_105 a2 (lo_S_forcesMate_2_38 a2 n) rn2 rc2 rn3 rc3 sd_4003 rt_4004 ps_4005 sq_4006 kg_4007 x5 x6 r4002) else (bk_S_forcesMate_2_78 a2 (lo_S_forcesMate_2_38 a2 n) rn2 rc2 rn3 rc3 sd_4003 rt_4004 ps_4005 sq_4006 kg_4007 x5 x6 r4002)))
theorem lo_S_forcesMate_2_38_z (a2 : Int32) (rn2 : Int32) (rc2 : Nat → Int32) (rn3 : Int32) (rc3 : Nat → Int32) (sd : Int32) (rt : Int32) (ps : Int32) (sq : Nat → Int32) (kg : Nat → Int32) (x5 : Int32) (x6 : Int32) : lo_S_forcesMate_2_38 a2 0 rn2 rc2 rn3 rc3 sd rt ps sq kg x5 x6 = none := rfl
theorem lo_S_forcesMate_2_38_s (a2 : Int32) (rn2 : Int32) (rc2 : Nat → Int32) (rn3 : Int32) (rc3 : Nat → Int32) (sd : Int32) (rt : Int32) (ps : Int32) (sq : Nat → Int32) (kg : Nat → Int32) (x5 : Int32) (x6 : Int32) (n : Nat) : lo_S_forcesMate_2_38 a2 (n + 1) rn2 rc2 rn3 rc3 sd rt ps sq kg x5 x6 = (if rn2 ≤ x6 then (some (0, rn2, rc2, rn3, rc3, sd, rt, ps, sq, kg)) else (qq_ck (qq_in x6 415) <| (fn_P_play sd rt ps sq kg (rc2 x6.toNatClampNeg)).bind fun (r4002, sd_4003, rt_4004, ps_4005, sq_4006, kg_4007) => if 1 < a2 then (bk_S_forcesMate_2_78 a2 (lo_S_forcesMate_2_38 a2 n) rn2 rc2 rn3 rc3 sd_4003 rt_4004 ps_4005 sq_4006 kg_4007 x5 x6 r4002) else ((fn_P_isInCheck sq_4006 kg_4007 (1 - x5)).bind fun r4008 => if r4008 = 0 then (bk_S_forcesMate_2_105 a2 (lo_S_forcesMate_2_38 a2 n) rn2 rc2 rn3 rc3 sd_4003 rt_4004 ps_4005 sq_4006 kg_4007 x5 x6 r4002) else (bk_S_forcesMate_2_78 a2 (lo_S_forcesMate_2_38 a2 n) rn2 rc2 rn3 rc3 sd_4003 rt_4004 ps_4005 sq_4006 kg_4007 x5 x6 r4002)))) := rfl
noncomputable def fn_S_forcesMate_2 (rn2 : Int32) (rc2 : Nat → Int32) (rn3 : Int32) (rc3 : Nat → Int32) (sd : Int32) (rt : Int32) (ps : Int32) (sq : Nat → Int32) (kg : Nat → Int32) (a2 : Int32) : Option ty_S_forcesMate_2 := if a2 ≤ 0 then (some (0, rn2, rc2, rn3, rc3, sd, rt, ps, sq, kg)) else ((fn_P_listCandidates sd rt ps sq kg rn2 rc2).bind fun (rn2_1, rc2_2) => lo_S_forcesMate_2_38 a2 qq_FU rn2_1 rc2_2 rn3 rc3 sd rt ps sq kg sd 0)
abbrev rm_S_forcesMate_2 : Room := { frames := 6, cells := 0, slots := 0, locals := 151 }
set_option maxHeartbeats 4000000 in
set_option maxRecDepth 100000 in
theorem ct_S_forcesMate_2 (l : Launch) (dC : Nat → ClassId) (dI : Nat → Nat → Nat) (cI cL cR : ClassId) (oS orows oR0 orc0 oR1 orc1 oR2 orc2 oR3 orc3 oP osq okg : Nat) (rn0 : Int32) (rc0 : Nat → Int32) (rn1 : Int32) (rc1 : Nat → Int32) (rn2 : Int32) (rc2 : Nat → Int32) (rn3 : Int32) (rc3 : Nat → Int32) (sd : Int32) (rt : Int32) (ps : Int32) (sq : Nat → Int32) (kg : Nat → Int32) (a2 : Int32) {rr : Int32} {rn2' : Int32} {rc2' : Nat → Int32} {rn3' : Int32} {rc3' : Nat → Int32} {sd' : Int32} {rt' : Int32} {ps' : Int32} {sq' : Nat → Int32} {kg' : Nat → Int32} (hf : fn_S_forcesMate_2 rn2 rc2 rn3 rc3 sd rt ps sq kg a2 = some (rr, rn2', rc2', rn3', rc3', sd', rt', ps', sq', kg')) : qq_det l yy_S_forcesMate (ww_of yy_S_forcesMate bb_S_forcesMate 9 (some .boolean)) rm_S_forcesMate_2 (dC, dI) (qq_ty cI cL cR) [.ref oS, .ref oP, .int a2, .int 2] [(oS, .inr (4, [.ref orows])), (orows, .inl (cR, 4, .inr (.inr (.inr (.inr (qq_rows oR0 oR1 oR2 oR3)))))), (oR0, .inr (2, [.ref orc0, .int rn0])), (orc0, .inl (cI, 415, .inl rc0)), (oR1, .inr (2, [.ref orc1, .int rn1])), (orc1, .inl (cI, 415, .inl rc1)), (oR2, .inr (2, [.ref orc2, .int rn2])), (orc2, .inl (cI, 415, .inl rc2)), (oR3, .inr (2, [.ref orc3, .int rn3])), (orc3, .inl (cI, 415, .inl rc3)), (oP, .inr (1, [.ref osq, .ref okg, .int sd, .int rt, .int ps])), (osq, .inl (cI, 64, .inl sq)), (okg, .inl (cI, 2, .inl kg))] (some (.int rr)) [(oS, .inr (4, [.ref orows])), (orows, .inl (cR, 4, .inr (.inr (.inr (.inr (qq_rows oR0 oR1 oR2 oR3)))))), (oR0, .inr (2, [.ref orc0, .int rn0])), (orc0, .inl (cI, 415, .inl rc0)), (oR1, .inr (2, [.ref orc1, .int rn1])), (orc1, .inl (cI, 415, .inl rc1)), (oR2, .inr (2, [.ref orc2, .int rn2'])), (orc2, .inl (cI, 415, .inl rc2')), (oR3, .inr (2, [.ref orc3, .int rn3'])), (orc3, .inl (cI, 415, .inl rc3')), (oP, .inr (1, [.ref osq, .ref okg, .int sd', .int rt', .int ps'])), (osq, .inl (cI, 64, .inl sq')), (okg, .inl (cI, 2, .inl kg'))] := by
  refine qq_of (own := RR_S) (by decide) rfl (Nat.le_of_ble_eq_true rfl) ?_
  intro p e s m below meth c A Q ls hx hb hml hr hlocks hown hts hK hA hT hN hP hD hS hl hQ
  have hl : lv_has ls 9 [(0, .ref oS), (1, .ref oP), (2, .int a2), (3, .int 2)] := hl
  have hL38 : ∀ (n38 : Nat) (rn2 : Int32) (rc2 : Nat → Int32) (rn3 : Int32) (rc3 : Nat → Int32) (sd : Int32) (rt : Int32) (ps : Int32) (sq : Nat → Int32) (kg : Nat → Int32) (x5 : Int32) (x6 : Int32) (H : Heap) (locs : List Loc) (ls : Array Slot), lv_has ls 9 [(0, .ref oS), (1, .ref oP), (2, .int a2), (3, .int 2), (4, .ref oR2), (5, .int x5), (6, .int x6)] → va_P (dC, dI) classes [(oS, .inr (4, [.ref orows])), (orows, .inl (cR, 4, .inr (.inr (.inr (.inr (qq_rows oR0 oR1 oR2 oR3)))))), (oR0, .inr (2, [.ref orc0, .int rn0])), (orc0, .inl (cI, 415, .inl rc0)), (oR1, .inr (2, [.ref orc1, .int rn1])), (orc1, .inl (cI, 415, .inl rc1)), (oR2, .inr (2, [.ref orc2, .int rn2])), (orc2, .inl (cI, 415, .inl rc2)), (oR3, .inr (2, [.ref orc3, .int rn3])), (orc3, .inl (cI, 415, .inl rc3)), (oP, .inr (1, [.ref osq, .ref okg, .int sd, .int rt, .int ps])), (osq, .inl (cI, 64, .inl sq)), (okg, .inl (cI, 2, .inl kg))] H → va_D A [(oS, .inr (4, [.ref orows])), (orows, .inl (cR, 4, .inr (.inr (.inr (.inr (qq_rows oR0 oR1 oR2 oR3)))))), (oR0, .inr (2, [.ref orc0, .int rn0])), (orc0, .inl (cI, 415, .inl rc0)), (oR1, .inr (2, [.ref orc1, .int rn1])), (orc1, .inl (cI, 415, .inl rc1)), (oR2, .inr (2, [.ref orc2, .int rn2])), (orc2, .inl (cI, 415, .inl rc2)), (oR3, .inr (2, [.ref orc3, .int rn3])), (orc3, .inl (cI, 415, .inl rc3)), (oP, .inr (1, [.ref osq, .ref okg, .int sd, .int rt, .int ps])), (osq, .inl (cI, 64, .inl sq)), (okg, .inl (cI, 2, .inl kg))] → va_S A s.heap H locs → lo_S_forcesMate_2_38 a2 n38 rn2 rc2 rn3 rc3 sd rt ps sq kg x5 x6 = some (rr, rn2', rc2', rn3', rc3', sd', rt', ps', sq', kg') → W p l e rm_S_forcesMate_2 s m ([.ref oS, .ref oP, .int a2, .int 2] : List Value).toArray below meth c H locs 0 0 Q (F0 m 38 ls []) := by
    intro n38
    induction n38 with
    | zero => exact fun rn2 rc2 rn3 rc3 sd rt ps sq kg x5 x6 H locs ls hl hP hD hS hf => absurd hf (by rw [lo_S_forcesMate_2_38_z]; exact fun h => by cases h)
    | succ n38 ih38 =>
      have hJ106 : ∀ (rn2 : Int32) (rc2 : Nat → Int32) (rn3 : Int32) (rc3 : Nat → Int32) (sd : Int32) (rt : Int32) (ps : Int32) (sq : Nat → Int32) (kg : Nat → Int32) (x5 : Int32) (x6 : Int32) (x7 : Int32) (s0 : Int32) (H : Heap) (locs : List Loc) (ls : Array Slot), lv_has ls 9 [(0, .ref oS), (1, .ref oP), (2, .int a2), (3, .int 2), (4, .ref oR2), (5, .int x5), (6, .int x6), (7, .int x7)] → va_P (dC, dI) classes [(oS, .inr (4, [.ref orows])), (orows, .inl (cR, 4, .inr (.inr (.inr (.inr (qq_rows oR0 oR1 oR2 oR3)))))), (oR0, .inr (2, [.ref orc0, .int rn0])), (orc0, .inl (cI, 415, .inl rc0)), (oR1, .inr (2, [.ref orc1, .int rn1])), (orc1, .inl (cI, 415, .inl rc1)), (oR2, .inr (2, [.ref orc2, .int rn2])), (orc2, .inl (cI, 415, .inl rc2)), (oR3, .inr (2, [.ref orc3, .int rn3])), (orc3, .inl (cI, 415, .inl rc3)), (oP, .inr (1, [.ref osq, .ref okg, .int sd, .int rt, .int ps])), (osq, .inl (cI, 64, .inl sq)), (okg, .inl (cI, 2, .inl kg))] H → va_D A [(oS, .inr (4, [.ref orows])), (orows, .inl (cR, 4, .inr (.inr (.inr (.inr (qq_rows oR0 oR1 oR2 oR3)))))), (oR0, .inr (2, [.ref orc0, .int rn0])), (orc0, .inl (cI, 415, .inl rc0)), (oR1, .inr (2, [.ref orc1, .int rn1])), (orc1, .inl (cI, 415, .inl rc1)), (oR2, .inr (2, [.ref orc2, .int rn2])), (orc2, .inl (cI, 415, .inl rc2)), (oR3, .inr (2, [.ref orc3, .int rn3])), (orc3, .inl (cI, 415, .inl rc3)), (oP, .inr (1, [.ref osq, .ref okg, .int sd, .int rt, .int ps])), (osq, .inl (cI, 64, .inl sq)), (okg, .inl (cI, 2, .inl kg))] → va_S A s.heap H locs → bk_S_forcesMate_2_106 a2 (lo_S_forcesMate_2_38 a2 n38) rn2 rc2 rn3 rc3 sd rt ps sq kg x5 x6 x7 s0 = some (rr, rn2', rc2', rn3', rc3', sd', rt', ps', sq', kg') → W p l e rm_S_forcesMate_2 s m ([.ref oS, .ref oP, .int a2, .int 2] : List Value).toArray below meth c H locs 0 0 Q (F0 m 106 ls [.int s0]) := by
        intro rn2 rc2 rn3 rc3 sd rt ps sq kg x5 x6 x7 s0 H locs ls hl hP hD hS hf
        rw [bk_S_forcesMate_2_106] at hf
        refine lv_istore (lv' := [(8, .int s0), (0, .ref oS), (1, .ref oP), (2, .int a2), (3, .int 2), (4, .ref oR2), (5, .int x5), (6, .int x6), (7, .int x7)]) hx hb dd_S_forcesMate_106 hl (by decide) rfl (fun ls hl => ?_)
        refine lv_aload_n hx hb dd_S_forcesMate_108 rfl (lv_at hl 2 rfl) ?_
        refine lv_aload hx hb dd_S_forcesMate_109 (lv_at hl 5 rfl) ?_
        refine va_get (D := (dC, dI)) (ci := 2) (v := .ref orc2) (C := RR_W) (T := FF_W) (N := 2) hx hb hts uu_W hown hK hP 6 rfl rfl 0 (by decide) (hts _ mm_361) (fun _ h9 => h9) rfl dd_S_forcesMate_111 ?_
        refine lv_iload hx hb dd_S_forcesMate_114 (lv_at hl 7 rfl) ?_
        obtain ⟨hi1001, hf⟩ := qq_ckE hf
        refine va_iald (D := (dC, dI)) (f := rc2) (n := 415) (cA := cI) hx hb hK hP 7 0 rfl rfl (qq_inE hi1001) dd_S_forcesMate_116 ?_
        refine lv_iload hx hb dd_S_forcesMate_117 (lv_at hl 8 rfl) ?_
        obtain ⟨⟨sd_1002, rt_1003, ps_1004, sq_1005, kg_1006⟩, hy1006, hf⟩ := qq_bd hf
        dsimp only at hf
        refine qq_V (As := [.int (rc2 x6.toNatClampNeg), .int x7]) (rest := []) (wr := [(oS, .inr (4, [.ref orows])), (orows, .inl (cR, 4, .inr (.inr (.inr (.inr (qq_rows oR0 oR1 oR2 oR3)))))), (oR0, .inr (2, [.ref orc0, .int rn0])), (orc0, .inl (cI, 415, .inl rc0)), (oR1, .inr (2, [.ref orc1, .int rn1])), (orc1, .inl (cI, 415, .inl rc1)), (oR2, .inr (2, [.ref orc2, .int rn2])), (orc2, .inl (cI, 415, .inl rc2)), (oR3, .inr (2, [.ref orc3, .int rn3])), (orc3, .inl (cI, 415, .inl rc3))]) (wf := [(oS, .inr (4, [.ref orows])), (orows, .inl (cR, 4, .inr (.inr (.inr (.inr (qq_rows oR0 oR1 oR2 oR3)))))), (oR0, .inr (2, [.ref orc0, .int rn0])), (orc0, .inl (cI, 415, .inl rc0)), (oR1, .inr (2, [.ref orc1, .int rn1])), (orc1, .inl (cI, 415, .inl rc1)), (oR2, .inr (2, [.ref orc2, .int rn2])), (orc2, .inl (cI, 415, .inl rc2)), (oR3, .inr (2, [.ref orc3, .int rn3])), (orc3, .inl (cI, 415, .inl rc3)), (oP, .inr (1, [.ref osq, .ref okg, .int sd_1002, .int rt_1003, .int ps_1004])), (osq, .inl (cI, 64, .inl sq_1005)), (okg, .inl (cI, 2, .inl kg_1006))]) ⟨hx, hb, hml, hown, hts⟩ (ct_P_takeBack l dC dI cI cL cR oP osq okg sd rt ps sq kg (rc2 x6.toNatClampNeg) x7 hy1006) mm_362 mm_128 mm_129 mm_126 mm_15 hd_P_takeBack (by decide) qq_00 hP hD hK hS hA hT hN (q0 := 10) (ci := 1) rfl rfl [10, 11, 12] [0, 1, 2, 3, 4, 5, 6, 7, 8, 9] [0, 1, 2, 3, 4, 5, 6, 7, 8, 9, 10, 11, 12] rfl rfl rfl (by decide) rfl hl.1 rfl (Nat.le_of_ble_eq_true rfl) dd_S_forcesMate_119 (fun H locs hP hD hS => ?_)
        refine W.eq (g2 := F0 m 122 ls []) rfl ?_
        refine lv_iload hx hb dd_S_forcesMate_122 (lv_at hl 0 rfl) ?_
        refine lv_if_eq (tgt := 129) hx hb dd_S_forcesMate_124 (by decide) (fun hc => ?_) (fun hc => ?_)
        · replace hf := qq_t hc hf
          obtain ⟨v1007, ev1007⟩ : ∃ z, z = x6 + 1 := ⟨_, rfl⟩
          replace hf := qq_lt ev1007 hf
          refine lv_iinc (k := 7) (v := v1007) (lv' := [(6, .int v1007), (8, .int s0), (0, .ref oS), (1, .ref oP), (2, .int a2), (3, .int 2), (4, .ref oR2), (5, .int x5), (7, .int x7)]) hx hb dd_S_forcesMate_129 hl rfl (by rw [ev1007]; exact congrArg _ (by decide)) (by decide) rfl (fun ls hl => ?_)
          refine lv_goto (tgt := 38) hx hb dd_S_forcesMate_132 (by decide) ?_
          exact ih38 rn2 rc2 rn3 rc3 sd_1002 rt_1003 ps_1004 sq_1005 kg_1006 x5 v1007 _ _ _ (lv_sub hl [2, 3, 4, 5, 6, 7, 0] rfl) hP hD hS hf
        · replace hf := qq_f hc hf
          refine lv_iconst (v := 1) hx hb dd_S_forcesMate_127 (by decide) ?_
          cases hf
          exact qq_zret hx hb hr rfl hlocks hQ hP hD hK hS dd_S_forcesMate_128
      have hJ105 : ∀ (rn2 : Int32) (rc2 : Nat → Int32) (rn3 : Int32) (rc3 : Nat → Int32) (sd : Int32) (rt : Int32) (ps : Int32) (sq : Nat → Int32) (kg : Nat → Int32) (x5 : Int32) (x6 : Int32) (x7 : Int32) (H : Heap) (locs : List Loc) (ls : Array Slot), lv_has ls 9 [(0, .ref oS), (1, .ref oP), (2, .int a2), (3, .int 2), (4, .ref oR2), (5, .int x5), (6, .int x6), (7, .int x7)] → va_P (dC, dI) classes [(oS, .inr (4, [.ref orows])), (orows, .inl (cR, 4, .inr (.inr (.inr (.inr (qq_rows oR0 oR1 oR2 oR3)))))), (oR0, .inr (2, [.ref orc0, .int rn0])), (orc0, .inl (cI, 415, .inl rc0)), (oR1, .inr (2, [.ref orc1, .int rn1])), (orc1, .inl (cI, 415, .inl rc1)), (oR2, .inr (2, [.ref orc2, .int rn2])), (orc2, .inl (cI, 415, .inl rc2)), (oR3, .inr (2, [.ref orc3, .int rn3])), (orc3, .inl (cI, 415, .inl rc3)), (oP, .inr (1, [.ref osq, .ref okg, .int sd, .int rt, .int ps])), (osq, .inl (cI, 64, .inl sq)), (okg, .inl (cI, 2, .inl kg))] H → va_D A [(oS, .inr (4, [.ref orows])), (orows, .inl (cR, 4, .inr (.inr (.inr (.inr (qq_rows oR0 oR1 oR2 oR3)))))), (oR0, .inr (2, [.ref orc0, .int rn0])), (orc0, .inl (cI, 415, .inl rc0)), (oR1, .inr (2, [.ref orc1, .int rn1])), (orc1, .inl (cI, 415, .inl rc1)), (oR2, .inr (2, [.ref orc2, .int rn2])), (orc2, .inl (cI, 415, .inl rc2)), (oR3, .inr (2, [.ref orc3, .int rn3])), (orc3, .inl (cI, 415, .inl rc3)), (oP, .inr (1, [.ref osq, .ref okg, .int sd, .int rt, .int ps])), (osq, .inl (cI, 64, .inl sq)), (okg, .inl (cI, 2, .inl kg))] → va_S A s.heap H locs → bk_S_forcesMate_2_105 a2 (lo_S_forcesMate_2_38 a2 n38) rn2 rc2 rn3 rc3 sd rt ps sq kg x5 x6 x7 = some (rr, rn2', rc2', rn3', rc3', sd', rt', ps', sq', kg') → W p l e rm_S_forcesMate_2 s m ([.ref oS, .ref oP, .int a2, .int 2] : List Value).toArray below meth c H locs 0 0 Q (F0 m 105 ls []) := by
        intro rn2 rc2 rn3 rc3 sd rt ps sq kg x5 x6 x7 H locs ls hl hP hD hS hf
        rw [bk_S_forcesMate_2_105] at hf
        refine lv_iconst (v := 0) hx hb dd_S_forcesMate_105 (by decide) ?_
        exact hJ106 rn2 rc2 rn3 rc3 sd rt ps sq kg x5 x6 x7 0 _ _ _ (lv_sub hl [0, 1, 2, 3, 4, 5, 6, 7] rfl) hP hD hS hf
      have hJ78 : ∀ (rn2 : Int32) (rc2 : Nat → Int32) (rn3 : Int32) (rc3 : Nat → Int32) (sd : Int32) (rt : Int32) (ps : Int32) (sq : Nat → Int32) (kg : Nat → Int32) (x5 : Int32) (x6 : Int32) (x7 : Int32) (H : Heap) (locs : List Loc) (ls : Array Slot), lv_has ls 9 [(0, .ref oS), (1, .ref oP), (2, .int a2), (3, .int 2), (4, .ref oR2), (5, .int x5), (6, .int x6), (7, .int x7)] → va_P (dC, dI) classes [(oS, .inr (4, [.ref orows])), (orows, .inl (cR, 4, .inr (.inr (.inr (.inr (qq_rows oR0 oR1 oR2 oR3)))))), (oR0, .inr (2, [.ref orc0, .int rn0])), (orc0, .inl (cI, 415, .inl rc0)), (oR1, .inr (2, [.ref orc1, .int rn1])), (orc1, .inl (cI, 415, .inl rc1)), (oR2, .inr (2, [.ref orc2, .int rn2])), (orc2, .inl (cI, 415, .inl rc2)), (oR3, .inr (2, [.ref orc3, .int rn3])), (orc3, .inl (cI, 415, .inl rc3)), (oP, .inr (1, [.ref osq, .ref okg, .int sd, .int rt, .int ps])), (osq, .inl (cI, 64, .inl sq)), (okg, .inl (cI, 2, .inl kg))] H → va_D A [(oS, .inr (4, [.ref orows])), (orows, .inl (cR, 4, .inr (.inr (.inr (.inr (qq_rows oR0 oR1 oR2 oR3)))))), (oR0, .inr (2, [.ref orc0, .int rn0])), (orc0, .inl (cI, 415, .inl rc0)), (oR1, .inr (2, [.ref orc1, .int rn1])), (orc1, .inl (cI, 415, .inl rc1)), (oR2, .inr (2, [.ref orc2, .int rn2])), (orc2, .inl (cI, 415, .inl rc2)), (oR3, .inr (2, [.ref orc3, .int rn3])), (orc3, .inl (cI, 415, .inl rc3)), (oP, .inr (1, [.ref osq, .ref okg, .int sd, .int rt, .int ps])), (osq, .inl (cI, 64, .inl sq)), (okg, .inl (cI, 2, .inl kg))] → va_S A s.heap H locs → bk_S_forcesMate_2_78 a2 (lo_S_forcesMate_2_38 a2 n38) rn2 rc2 rn3 rc3 sd rt ps sq kg x5 x6 x7 = some (rr, rn2', rc2', rn3', rc3', sd', rt', ps', sq', kg') → W p l e rm_S_forcesMate_2 s m ([.ref oS, .ref oP, .int a2, .int 2] : List Value).toArray below meth c H locs 0 0 Q (F0 m 78 ls []) := by
        intro rn2 rc2 rn3 rc3 sd rt ps sq kg x5 x6 x7 H locs ls hl hP hD hS hf
        rw [bk_S_forcesMate_2_78] at hf
        refine lv_aload_n hx hb dd_S_forcesMate_78 rfl (lv_at hl 1 rfl) ?_
        refine lv_iload hx hb dd_S_forcesMate_79 (lv_at hl 5 rfl) ?_
        obtain ⟨r3001, hy3001, hf⟩ := qq_bd hf
        refine qq_V (As := [.int x5]) (rest := []) (wr := [(oS, .inr (4, [.ref orows])), (orows, .inl (cR, 4, .inr (.inr (.inr (.inr (qq_rows oR0 oR1 oR2 oR3)))))), (oR0, .inr (2, [.ref orc0, .int rn0])), (orc0, .inl (cI, 415, .inl rc0)), (oR1, .inr (2, [.ref orc1, .int rn1])), (orc1, .inl (cI, 415, .inl rc1)), (oR2, .inr (2, [.ref orc2, .int rn2])), (orc2, .inl (cI, 415, .inl rc2)), (oR3, .inr (2, [.ref orc3, .int rn3])), (orc3, .inl (cI, 415, .inl rc3))]) (wf := [(oS, .inr (4, [.ref orows])), (orows, .inl (cR, 4, .inr (.inr (.inr (.inr (qq_rows oR0 oR1 oR2 oR3)))))), (oR0, .inr (2, [.ref orc0, .int rn0])), (orc0, .inl (cI, 415, .inl rc0)), (oR1, .inr (2, [.ref orc1, .int rn1])), (orc1, .inl (cI, 415, .inl rc1)), (oR2, .inr (2, [.ref orc2, .int rn2])), (orc2, .inl (cI, 415, .inl rc2)), (oR3, .inr (2, [.ref orc3, .int rn3])), (orc3, .inl (cI, 415, .inl rc3)), (oP, .inr (1, [.ref osq, .ref okg, .int sd, .int rt, .int ps])), (osq, .inl (cI, 64, .inl sq)), (okg, .inl (cI, 2, .inl kg))]) ⟨hx, hb, hml, hown, hts⟩ (ct_P_isInCheck l dC dI cI cL cR oP osq okg sd rt ps sq kg x5 hy3001) mm_370 mm_371 mm_372 mm_369 mm_15 hd_P_isInCheck (by decide) qq_00 hP hD hK hS hA hT hN (q0 := 10) (ci := 1) rfl rfl [10, 11, 12] [0, 1, 2, 3, 4, 5, 6, 7, 8, 9] [0, 1, 2, 3, 4, 5, 6, 7, 8, 9, 10, 11, 12] rfl rfl rfl (by decide) rfl hl.1 rfl (Nat.le_of_ble_eq_true rfl) dd_S_forcesMate_81 (fun H locs hP hD hS => ?_)
        refine W.eq (g2 := F0 m 84 ls [.int r3001]) rfl ?_
        refine lv_if_ne (tgt := 105) hx hb dd_S_forcesMate_84 (by decide) (fun hc => ?_) (fun hc => ?_)
        · replace hf := qq_f hc hf
          exact hJ105 rn2 rc2 rn3 rc3 sd rt ps sq kg x5 x6 x7 _ _ _ (lv_sub hl [0, 1, 2, 3, 4, 5, 6, 7] rfl) hP hD hS hf
        · replace hf := qq_t hc hf
          refine lv_aload_n hx hb dd_S_forcesMate_87 rfl (lv_at hl 0 rfl) ?_
          refine lv_aload_n hx hb dd_S_forcesMate_88 rfl (lv_at hl 1 rfl) ?_
          refine lv_iload_n hx hb dd_S_forcesMate_89 rfl (lv_at hl 2 rfl) ?_
          refine lv_iconst (v := 1) hx hb dd_S_forcesMate_90 (by decide) ?_
          refine lv_isub hx hb dd_S_forcesMate_91 ?_
          refine lv_iload_n hx hb dd_S_forcesMate_92 rfl (lv_at hl 3 rfl) ?_
          refine lv_iconst (v := 1) hx hb dd_S_forcesMate_93 (by decide) ?_
          refine lv_iadd hx hb dd_S_forcesMate_94 ?_
          refine lv_topi (fun v3002 ev3002 => ?_)
          have ev3002 : v3002 = 3 := by rw [ev3002]; decide
          subst ev3002
          obtain ⟨⟨r3003, rn3_3004, rc3_3005, sd_3006, rt_3007, ps_3008, sq_3009, kg_3010⟩, hy3010, hf⟩ := qq_bd hf
          dsimp only at hf
          refine qq_V (As := [.ref oP, .int (a2 - 1), .int 3]) (rest := []) (wr := []) (wf := [(oS, .inr (4, [.ref orows])), (orows, .inl (cR, 4, .inr (.inr (.inr (.inr (qq_rows oR0 oR1 oR2 oR3)))))), (oR0, .inr (2, [.ref orc0, .int rn0])), (orc0, .inl (cI, 415, .inl rc0)), (oR1, .inr (2, [.ref orc1, .int rn1])), (orc1, .inl (cI, 415, .inl rc1)), (oR2, .inr (2, [.ref orc2, .int rn2])), (orc2, .inl (cI, 415, .inl rc2)), (oR3, .inr (2, [.ref orc3, .int rn3_3004])), (orc3, .inl (cI, 415, .inl rc3_3005)), (oP, .inr (1, [.ref osq, .ref okg, .int sd_3006, .int rt_3007, .int ps_3008])), (osq, .inl (cI, 64, .inl sq_3009)), (okg, .inl (cI, 2, .inl kg_3010))]) ⟨hx, hb, hml, hown, hts⟩ (ct_S_isLost_3 l dC dI cI cL cR oS orows oR0 orc0 oR1 orc1 oR2 orc2 oR3 orc3 oP osq okg rn0 rc0 rn1 rc1 rn2 rc2 rn3 rc3 sd rt ps sq kg (a2 - 1) hy3010) mm_377 mm_378 mm_379 mm_376 mm_364 hd_S_isLost (by decide) qq_00 hP hD hK hS hA hT hN (q0 := 0) (ci := 4) rfl rfl [0, 1, 2, 3, 4, 5, 6, 7, 8, 9, 10, 11, 12] [] [0, 1, 2, 3, 4, 5, 6, 7, 8, 9, 10, 11, 12] rfl rfl rfl (by decide) rfl hl.1 rfl (Nat.le_of_ble_eq_true rfl) dd_S_forcesMate_95 (fun H locs hP hD hS => ?_)
          refine W.eq (g2 := F0 m 98 ls [.int r3003]) rfl ?_
          refine lv_if_eq (tgt := 105) hx hb dd_S_forcesMate_98 (by decide) (fun hc => ?_) (fun hc => ?_)
          · replace hf := qq_t hc hf
            exact hJ105 rn2 rc2 rn3_3004 rc3_3005 sd_3006 rt_3007 ps_3008 sq_3009 kg_3010 x5 x6 x7 _ _ _ (lv_sub hl [0, 1, 2, 3, 4, 5, 6, 7] rfl) hP hD hS hf
          · replace hf := qq_f hc hf
            refine lv_iconst (v := 1) hx hb dd_S_forcesMate_101 (by decide) ?_
            refine lv_goto (tgt := 106) hx hb dd_S_forcesMate_102 (by decide) ?_
            exact hJ106 rn2 rc2 rn3_3004 rc3_3005 sd_3006 rt_3007 ps_3008 sq_3009 kg_3010 x5 x6 x7 1 _ _ _ (lv_sub hl [0, 1, 2, 3, 4, 5, 6, 7] rfl) hP hD hS hf
      intro rn2 rc2 rn3 rc3 sd rt ps sq kg x5 x6 H locs ls hl hP hD hS hf
      rw [lo_S_forcesMate_2_38_s] at hf
      refine lv_iload hx hb dd_S_forcesMate_38 (lv_at hl 6 rfl) ?_
      refine lv_aload hx hb dd_S_forcesMate_40 (lv_at hl 4 rfl) ?_
      refine va_get (D := (dC, dI)) (ci := 2) (v := .int rn2) (C := RR_W) (T := FF_W) (N := 2) hx hb hts uu_W hown hK hP 6 rfl rfl 1 (by decide) (hts _ mm_368) (fun _ h9 => h9) rfl dd_S_forcesMate_42 ?_
      refine lv_icmp_ge (tgt := 135) hx hb dd_S_forcesMate_45 (by decide) (fun hc => ?_) (fun hc => ?_)
      · replace hf := qq_t hc hf
        refine lv_iconst (v := 0) hx hb dd_S_forcesMate_135 (by decide) ?_
        cases hf
        exact qq_zret hx hb hr rfl hlocks hQ hP hD hK hS dd_S_forcesMate_136
      · replace hf := qq_f hc hf
        refine lv_aload_n hx hb dd_S_forcesMate_48 rfl (lv_at hl 1 rfl) ?_
        refine lv_aload hx hb dd_S_forcesMate_49 (lv_at hl 4 rfl) ?_
        refine va_get (D := (dC, dI)) (ci := 2) (v := .ref orc2) (C := RR_W) (T := FF_W) (N := 2) hx hb hts uu_W hown hK hP 6 rfl rfl 0 (by decide) (hts _ mm_361) (fun _ h9 => h9) rfl dd_S_forcesMate_51 ?_
        refine lv_iload hx hb dd_S_forcesMate_54 (lv_at hl 6 rfl) ?_
        obtain ⟨hi4001, hf⟩ := qq_ckE hf
        refine va_iald (D := (dC, dI)) (f := rc2) (n := 415) (cA := cI) hx hb hK hP 7 0 rfl rfl (qq_inE hi4001) dd_S_forcesMate_56 ?_
        obtain ⟨⟨r4002, sd_4003, rt_4004, ps_4005, sq_4006, kg_4007⟩, hy4007, hf⟩ := qq_bd hf
        dsimp only at hf
        refine qq_V (As := [.int (rc2 x6.toNatClampNeg)]) (rest := []) (wr := [(oS, .inr (4, [.ref orows])), (orows, .inl (cR, 4, .inr (.inr (.inr (.inr (qq_rows oR0 oR1 oR2 oR3)))))), (oR0, .inr (2, [.ref orc0, .int rn0])), (orc0, .inl (cI, 415, .inl rc0)), (oR1, .inr (2, [.ref orc1, .int rn1])), (orc1, .inl (cI, 415, .inl rc1)), (oR2, .inr (2, [.ref orc2, .int rn2])), (orc2, .inl (cI, 415, .inl rc2)), (oR3, .inr (2, [.ref orc3, .int rn3])), (orc3, .inl (cI, 415, .inl rc3))]) (wf := [(oS, .inr (4, [.ref orows])), (orows, .inl (cR, 4, .inr (.inr (.inr (.inr (qq_rows oR0 oR1 oR2 oR3)))))), (oR0, .inr (2, [.ref orc0, .int rn0])), (orc0, .inl (cI, 415, .inl rc0)), (oR1, .inr (2, [.ref orc1, .int rn1])), (orc1, .inl (cI, 415, .inl rc1)), (oR2, .inr (2, [.ref orc2, .int rn2])), (orc2, .inl (cI, 415, .inl rc2)), (oR3, .inr (2, [.ref orc3, .int rn3])), (orc3, .inl (cI, 415, .inl rc3)), (oP, .inr (1, [.ref osq, .ref okg, .int sd_4003, .int rt_4004, .int ps_4005])), (osq, .inl (cI, 64, .inl sq_4006)), (okg, .inl (cI, 2, .inl kg_4007))]) ⟨hx, hb, hml, hown, hts⟩ (ct_P_play l dC dI cI cL cR oP osq okg sd rt ps sq kg (rc2 x6.toNatClampNeg) hy4007) mm_373 mm_132 mm_133 mm_130 mm_15 hd_P_play (by decide) qq_00 hP hD hK hS hA hT hN (q0 := 10) (ci := 1) rfl rfl [10, 11, 12] [0, 1, 2, 3, 4, 5, 6, 7, 8, 9] [0, 1, 2, 3, 4, 5, 6, 7, 8, 9, 10, 11, 12] rfl rfl rfl (by decide) rfl hl.1 rfl (Nat.le_of_ble_eq_true rfl) dd_S_forcesMate_57 (fun H locs hP hD hS => ?_)
        refine W.eq (g2 := F0 m 60 ls [.int r4002]) rfl ?_
        refine lv_istore (lv' := [(7, .int r4002), (0, .ref oS), (1, .ref oP), (2, .int a2), (3, .int 2), (4, .ref oR2), (5, .int x5), (6, .int x6)]) hx hb dd_S_forcesMate_60 hl (by decide) rfl (fun ls hl => ?_)
        refine lv_iload_n hx hb dd_S_forcesMate_62 rfl (lv_at hl 3 rfl) ?_
        refine lv_iconst (v := 1) hx hb dd_S_forcesMate_63 (by decide) ?_
        refine lv_icmp_gt (tgt := 78) hx hb dd_S_forcesMate_64 (by decide) (fun hc => ?_) (fun hc => ?_)
        · replace hf := qq_t hc hf
          exact hJ78 rn2 rc2 rn3 rc3 sd_4003 rt_4004 ps_4005 sq_4006 kg_4007 x5 x6 r4002 _ _ _ (lv_sub hl [1, 2, 3, 4, 5, 6, 7, 0] rfl) hP hD hS hf
        · replace hf := qq_f hc hf
          refine lv_aload_n hx hb dd_S_forcesMate_67 rfl (lv_at hl 2 rfl) ?_
          refine lv_iconst (v := 1) hx hb dd_S_forcesMate_68 (by decide) ?_
          refine lv_iload hx hb dd_S_forcesMate_69 (lv_at hl 6 rfl) ?_
          refine lv_isub hx hb dd_S_forcesMate_71 ?_
          obtain ⟨r4008, hy4008, hf⟩ := qq_bd hf
          refine qq_V (As := [.int (1 - x5)]) (rest := []) (wr := [(oS, .inr (4, [.ref orows])), (orows, .inl (cR, 4, .inr (.inr (.inr (.inr (qq_rows oR0 oR1 oR2 oR3)))))), (oR0, .inr (2, [.ref orc0, .int rn0])), (orc0, .inl (cI, 415, .inl rc0)), (oR1, .inr (2, [.ref orc1, .int rn1])), (orc1, .inl (cI, 415, .inl rc1)), (oR2, .inr (2, [.ref orc2, .int rn2])), (orc2, .inl (cI, 415, .inl rc2)), (oR3, .inr (2, [.ref orc3, .int rn3])), (orc3, .inl (cI, 415, .inl rc3))]) (wf := [(oS, .inr (4, [.ref orows])), (orows, .inl (cR, 4, .inr (.inr (.inr (.inr (qq_rows oR0 oR1 oR2 oR3)))))), (oR0, .inr (2, [.ref orc0, .int rn0])), (orc0, .inl (cI, 415, .inl rc0)), (oR1, .inr (2, [.ref orc1, .int rn1])), (orc1, .inl (cI, 415, .inl rc1)), (oR2, .inr (2, [.ref orc2, .int rn2])), (orc2, .inl (cI, 415, .inl rc2)), (oR3, .inr (2, [.ref orc3, .int rn3])), (orc3, .inl (cI, 415, .inl rc3)), (oP, .inr (1, [.ref osq, .ref okg, .int sd_4003, .int rt_4004, .int ps_4005])), (osq, .inl (cI, 64, .inl sq_4006)), (okg, .inl (cI, 2, .inl kg_4007))]) ⟨hx, hb, hml, hown, hts⟩ (ct_P_isInCheck l dC dI cI cL cR oP osq okg sd_4003 rt_4004 ps_4005 sq_4006 kg_4007 (1 - x5) hy4008) mm_370 mm_371 mm_372 mm_369 mm_15 hd_P_isInCheck (by decide) qq_00 hP hD hK hS hA hT hN (q0 := 10) (ci := 1) rfl rfl [10, 11, 12] [0, 1, 2, 3, 4, 5, 6, 7, 8, 9] [0, 1, 2, 3, 4, 5, 6, 7, 8, 9, 10, 11, 12] rfl rfl rfl (by decide) rfl hl.1 rfl (Nat.le_of_ble_eq_true rfl) dd_S_forcesMate_72 (fun H locs hP hD hS => ?_)
          refine W.eq (g2 := F0 m 75 ls [.int r4008]) rfl ?_
          refine lv_if_eq (tgt := 105) hx hb dd_S_forcesMate_75 (by decide) (fun hc => ?_) (fun hc => ?_)
          · replace hf := qq_t hc hf
            exact hJ105 rn2 rc2 rn3 rc3 sd_4003 rt_4004 ps_4005 sq_4006 kg_4007 x5 x6 r4002 _ _ _ (lv_sub hl [1, 2, 3, 4, 5, 6, 7, 0] rfl) hP hD hS hf
          · replace hf := qq_f hc hf
            exact hJ78 rn2 rc2 rn3 rc3 sd_4003 rt_4004 ps_4005 sq_4006 kg_4007 x5 x6 r4002 _ _ _ (lv_sub hl [1, 2, 3, 4, 5, 6, 7, 0] rfl) hP hD hS hf
  rw [fn_S_forcesMate_2] at hf
  refine lv_iload_n hx hb dd_S_forcesMate_0 rfl (lv_at hl 2 rfl) ?_
  refine lv_if_le (tgt := 13) hx hb dd_S_forcesMate_1 (by decide) (fun hc => ?_) (fun hc => ?_)
  · replace hf := qq_t hc hf
    refine lv_iconst (v := 0) hx hb dd_S_forcesMate_13 (by decide) ?_
    cases hf
    exact qq_zret hx hb hr rfl hlocks hQ hP hD hK hS dd_S_forcesMate_14
  · replace hf := qq_f hc hf
    refine lv_iload_n hx hb dd_S_forcesMate_4 rfl (lv_at hl 3 rfl) ?_
    refine lv_aload_n hx hb dd_S_forcesMate_5 rfl (lv_at hl 0 rfl) ?_
    refine va_get (D := (dC, dI)) (ci := 4) (v := .ref orows) (C := RR_S) (T := FF_S) (N := 1) hx hb hts uu_S hown hK hP 0 rfl rfl 0 (by decide) (hts _ mm_360) (fun _ h9 => h9) rfl dd_S_forcesMate_6 ?_
    refine va_alen (D := (dC, dI)) (v := 4) hx hb hK hP 1 2 rfl rfl rfl dd_S_forcesMate_9 ?_
    refine lv_icmp_lt (tgt := 15) hx hb dd_S_forcesMate_10 (by decide) (fun hc => ?_) (fun hc => absurd hc (by decide))
    refine lv_aload_n hx hb dd_S_forcesMate_15 rfl (lv_at hl 0 rfl) ?_
    refine va_get (D := (dC, dI)) (ci := 4) (v := .ref orows) (C := RR_S) (T := FF_S) (N := 1) hx hb hts uu_S hown hK hP 0 rfl rfl 0 (by decide) (hts _ mm_360) (fun _ h9 => h9) rfl dd_S_forcesMate_16 ?_
    refine lv_iload_n hx hb dd_S_forcesMate_19 rfl (lv_at hl 3 rfl) ?_
    refine va_aldq (D := (dC, dI)) (f := qq_rows oR0 oR1 oR2 oR3) (n := 4) (cA := cR) (C := RR_W) hx hb hK hP 1 2 rfl rfl (qq_inE (by decide)) dd_S_forcesMate_20 ?_
    refine W.eq (g2 := F0 m 21 ls [.ref oR2]) rfl ?_
    refine lv_astore (lv' := [(4, .ref oR2), (0, .ref oS), (1, .ref oP), (2, .int a2), (3, .int 2)]) hx hb dd_S_forcesMate_21 hl (by decide) rfl (fun ls hl => ?_)
    refine lv_aload_n hx hb dd_S_forcesMate_23 rfl (lv_at hl 2 rfl) ?_
    refine lv_aload hx hb dd_S_forcesMate_24 (lv_at hl 0 rfl) ?_
    obtain ⟨⟨rn2_1, rc2_2⟩, hy2, hf⟩ := qq_bd hf
    dsimp only at hf
    refine qq_V (As := [.ref oR2]) (rest := []) (wr := [(oS, .inr (4, [.ref orows])), (orows, .inl (cR, 4, .inr (.inr (.inr (.inr (qq_rows oR0 oR1 oR2 oR3)))))), (oR0, .inr (2, [.ref orc0, .int rn0])), (orc0, .inl (cI, 415, .inl rc0)), (oR1, .inr (2, [.ref orc1, .int rn1])), (orc1, .inl (cI, 415, .inl rc1)), (oR3, .inr (2, [.ref orc3, .int rn3])), (orc3, .inl (cI, 415, .inl rc3))]) (wf := [(oS, .inr (4, [.ref orows])), (orows, .inl (cR, 4, .inr (.inr (.inr (.inr (qq_rows oR0 oR1 oR2 oR3)))))), (oR0, .inr (2, [.ref orc0, .int rn0])), (orc0, .inl (cI, 415, .inl rc0)), (oR1, .inr (2, [.ref orc1, .int rn1])), (orc1, .inl (cI, 415, .inl rc1)), (oR2, .inr (2, [.ref orc2, .int rn2_1])), (orc2, .inl (cI, 415, .inl rc2_2)), (oR3, .inr (2, [.ref orc3, .int rn3])), (orc3, .inl (cI, 415, .inl rc3)), (oP, .inr (1, [.ref osq, .ref okg, .int sd, .int rt, .int ps])), (osq, .inl (cI, 64, .inl sq)), (okg, .inl (cI, 2, .inl kg))]) ⟨hx, hb, hml, hown, hts⟩ (ct_P_listCandidates l dC dI cI cL cR oP osq okg oR2 orc2 sd rt ps sq kg rn2 rc2 hy2) mm_374 mm_141 mm_142 mm_139 mm_15 hd_P_listCandidates (by decide) qq_00 hP hD hK hS hA hT hN (q0 := 10) (ci := 1) rfl rfl [10, 11, 12, 6, 7] [0, 1, 2, 3, 4, 5, 8, 9] [0, 1, 2, 3, 4, 5, 11, 12, 6, 7, 8, 9, 10] rfl rfl rfl (by decide) rfl hl.1 rfl (Nat.le_of_ble_eq_true rfl) dd_S_forcesMate_26 (fun H locs hP hD hS => ?_)
    refine W.eq (g2 := F0 m 29 ls []) rfl ?_
    refine lv_aload_n hx hb dd_S_forcesMate_29 rfl (lv_at hl 2 rfl) ?_
    refine va_get (D := (dC, dI)) (ci := 1) (v := .int sd) (C := RR_P) (T := FF_P) (N := 5) hx hb hts uu_P hown hK hP 10 rfl rfl 2 (by decide) (hts _ mm_375) (fun _ h9 => h9) rfl dd_S_forcesMate_30 ?_
    refine lv_istore (lv' := [(5, .int sd), (4, .ref oR2), (0, .ref oS), (1, .ref oP), (2, .int a2), (3, .int 2)]) hx hb dd_S_forcesMate_33 hl (by decide) rfl (fun ls hl => ?_)
    refine lv_iconst (v := 0) hx hb dd_S_forcesMate_35 (by decide) ?_
    refine lv_istore (lv' := [(6, .int 0), (5, .int sd), (4, .ref oR2), (0, .ref oS), (1, .ref oP), (2, .int a2), (3, .int 2)]) hx hb dd_S_forcesMate_36 hl (by decide) rfl (fun ls hl => ?_)
    exact hL38 qq_FU rn2_1 rc2_2 rn3 rc3 sd rt ps sq kg sd 0 _ _ _ (lv_sub hl [3, 4, 5, 6, 2, 1, 0] rfl) hP hD hS hf
