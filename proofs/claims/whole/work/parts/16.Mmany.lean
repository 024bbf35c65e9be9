theorem dd_M_many_0 : decode bb_M_many 0 = .ok (.iconst 0, 1) := by decide +kernel
theorem dd_M_many_1 : decode bb_M_many 1 = .ok (.istore_n 3, 1) := by decide +kernel
theorem dd_M_many_2 : decode bb_M_many 2 = .ok (.iconst 0, 1) := by decide +kernel
theorem dd_M_many_3 : decode bb_M_many 3 = .ok (.istore 4, 2) := by decide +kernel
theorem dd_M_many_5 : decode bb_M_many 5 = .ok (.iload 4, 2) := by decide +kernel
theorem dd_M_many_7 : decode bb_M_many 7 = .ok (.bipush 64, 2) := by decide +kernel
theorem dd_M_many_9 : decode bb_M_many 9 = .ok (.if_icmp .ge 49, 3) := by decide +kernel
theorem dd_M_many_12 : decode bb_M_many 12 = .ok (.aload_n 0, 1) := by decide +kernel
theorem dd_M_many_13 : decode bb_M_many 13 = .ok (.getfield 7, 3) := by decide +kernel
theorem dd_M_many_16 : decode bb_M_many 16 = .ok (.iload 4, 2) := by decide +kernel
theorem dd_M_many_18 : decode bb_M_many 18 = .ok (.iaload, 1) := by decide +kernel
theorem dd_M_many_19 : decode bb_M_many 19 = .ok (.iload_n 1, 1) := by decide +kernel
theorem dd_M_many_20 : decode bb_M_many 20 = .ok (.invokestatic 83, 3) := by decide +kernel
theorem dd_M_many_23 : decode bb_M_many 23 = .ok (.ifCond .eq 27, 3) := by decide +kernel
theorem dd_M_many_26 : decode bb_M_many 26 = .ok (.iload_n 2, 1) := by decide +kernel
theorem dd_M_many_27 : decode bb_M_many 27 = .ok (.ifCond .eq 17, 3) := by decide +kernel
theorem dd_M_many_30 : decode bb_M_many 30 = .ok (.aload_n 0, 1) := by decide +kernel
theorem dd_M_many_31 : decode bb_M_many 31 = .ok (.getfield 7, 3) := by decide +kernel
theorem dd_M_many_34 : decode bb_M_many 34 = .ok (.iload 4, 2) := by decide +kernel
theorem dd_M_many_36 : decode bb_M_many 36 = .ok (.iaload, 1) := by decide +kernel
theorem dd_M_many_37 : decode bb_M_many 37 = .ok (.invokestatic 73, 3) := by decide +kernel
theorem dd_M_many_40 : decode bb_M_many 40 = .ok (.iload_n 2, 1) := by decide +kernel
theorem dd_M_many_41 : decode bb_M_many 41 = .ok (.if_icmp .ne 9, 3) := by decide +kernel
theorem dd_M_many_44 : decode bb_M_many 44 = .ok (.iload_n 3, 1) := by decide +kernel
theorem dd_M_many_45 : decode bb_M_many 45 = .ok (.iconst 1, 1) := by decide +kernel
theorem dd_M_many_46 : decode bb_M_many 46 = .ok (.iadd, 1) := by decide +kernel
theorem dd_M_many_47 : decode bb_M_many 47 = .ok (.goto 4, 3) := by decide +kernel
theorem dd_M_many_50 : decode bb_M_many 50 = .ok (.iload_n 3, 1) := by decide +kernel
theorem dd_M_many_51 : decode bb_M_many 51 = .ok (.istore_n 3, 1) := by decide +kernel
theorem dd_M_many_52 : decode bb_M_many 52 = .ok (.iinc 4 1, 3) := by decide +kernel
theorem dd_M_many_55 : decode bb_M_many 55 = .ok (.goto (-50), 3) := by decide +kernel
theorem dd_M_many_58 : decode bb_M_many 58 = .ok (.iload_n 3, 1) := by decide +kernel
theorem dd_M_many_59 : decode bb_M_many 59 = .ok (.ireturn, 1) := by decide +kernel
abbrev ty_M_many : Type := Int32
noncomputable def bk_M_many_51 (bd : Nat → Int32) (a1 : Int32) (a2 : Int32) (k5 : Int32 → Int32 → Option ty_M_many) (x4 : Int32) (s0 : Int32) : Option ty_M_many := qq_let (x4 + 1) fun v1001 => k5 s0 v1001
noncomputable def bk_M_many_50 (bd : Nat → Int32) (a1 : Int32) (a2 : Int32) (k5 : Int32 → Int32 → Option ty_M_many) (x3 : Int32) (x4 : Int32) : Option ty_M_many := bk_M_many_51 bd a1 a2 k5 x4 x3
noncomputable def bk_M_many_44 (bd : Nat → Int32) (a1 : Int32) (a2 : Int32) (k5 : Int32 → Int32 → Option ty_M_many) (x3 : Int32) (x4 : Int32) : Option ty_M_many := bk_M_many_51 bd a1 a2 k5 x4 (x3 + 1)
noncomputable def lo_M_many_5 (bd : Nat → Int32) (a1 : Int32) (a2 : Int32) : Nat → Int32 → Int32 → Option ty_M_many
  | 0, _, _ => none
  | n + 1, x3, x4 => if 64 ≤ x4 then (some x3) else (qq_ck (qq_in x4 64) <| (fn_M_isOf (bd x4.toNatClampNeg) a1).bind fun r4002 => if r4002 = 0 then (bk_M_many_50 bd a1 a2 (lo_M_many_5 bd a1 a2 n) x3 x4) else (if a2 = 0 then (bk_M_many_44 bd a1 a2 (lo_M_many_5 bd a1 a2 n) x3 x4) else (qq_ck (qq_in x4 64) <| (fn_M_kindOf (bd x4.toNatClampNeg)).bind fun r4004 => if r4004 = a2 then (bk_M_many_44 bd a1 a2 (lo_M_many_5 bd a1 a2 n) x3 x4) else (bk_M_many_50 bd a1 a2 (lo_M_many_5 bd a1 a2 n) x3 x4))))
theorem lo_M_many_5_z (bd : Nat → Int32) (a1 : Int32) (a2 : Int32) (x3 : Int32) (x4 : Int32) : lo_M_many_5 bd a1 a2 0 x3 x4 = none := rfl
theorem lo_M_many_5_s (bd : Nat → Int32) (a1 : Int32) (a2 : Int32) (x3 : Int32) (x4 : Int32) (n : Nat) : lo_M_many_5 bd a1 a2 (n + 1) x3 x4 = (if 64 ≤ x4 then (some x3) else (qq_ck (qq_in x4 64) <| (fn_M_isOf (bd x4.toNatClampNeg) a1).bind fun r4002 => if r4002 = 0 then (bk_M_many_50 bd a1 a2 (lo_M_many_5 bd a1 a2 n) x3 x4) else (if a2 = 0 then (bk_M_many_44 bd a1 a2 (lo_M_many_5 bd a1 a2 n) x3 x4) else (qq_ck (qq_in x4 64) <| (fn_M_kindOf (bd x4.toNatClampNeg)).bind fun r4004 => if r4004 = a2 then (bk_M_many_44 bd a1 a2 (lo_M_many_5 bd a1 a2 n) x3 x4) else (bk_M_many_50 bd a1 a2 (lo_M_many_5 bd a1 a2 n) x3 x4))))) := rfl
noncomputable def fn_M_many (bd : Nat → Int32) (a1 : Int32) (a2 : Int32) : Option ty_M_many := lo_M_many_5 bd a1 a2 qq_FU 0 0
abbrev rm_M_many : Room := { frames := 1, cells := 0, slots := 0, locals := 21 }
set_option maxHeartbeats 4000000 in
set_option maxRecDepth 100000 in
theorem ct_M_many (l : Launch) (dC : Nat → ClassId) (dI : Nat → Nat → Nat) (cI cL cR : ClassId) (oM obd opa opS opR opG opP opQ okp okS okR okP okQ oli : Nat) (mth : Int32) (mpl : Int32) (msd : Int32) (mrt : Int32) (mps : Int32) (mqt : Int32) (mmd : Int32) (bd : Nat → Int32) (pa : Nat → Int32) (pS : Nat → Int32) (pR : Nat → Int32) (pG : Nat → Int32) (pP : Nat → Int32) (pQ : Nat → Int32) (kp : Nat → Int32) (kS : Nat → Int32) (kR : Nat → Int32) (kP : Nat → Int32) (kQ : Nat → Int32) (li : Nat → Int32) (a1 : Int32) (a2 : Int32) {rr : Int32} (hf : fn_M_many bd a1 a2 = some rr) : qq_det l yy_M_many (ww_of yy_M_many bb_M_many 5 (some .int)) rm_M_many (dC, dI) (qq_ty cI cL cR) [.ref oM, .int a1, .int a2] [(oM, .inr (5, [.int mth, .int mpl, .ref obd, .int msd, .int mrt, .int mps, .int mqt, .int mmd, .ref opa, .ref opS, .ref opR, .ref opG, .ref opP, .ref opQ, .ref okp, .ref okS, .ref okR, .ref okP, .ref okQ, .ref oli])), (obd, .inl (cI, 64, .inl bd)), (opa, .inl (cI, 9664, .inl pa)), (opS, .inl (cI, 151, .inl pS)), (opR, .inl (cI, 151, .inl pR)), (opG, .inl (cI, 151, .inl pG)), (opP, .inl (cI, 151, .inl pP)), (opQ, .inl (cI, 151, .inl pQ)), (okp, .inl (cI, 256, .inl kp)), (okS, .inl (cI, 4, .inl kS)), (okR, .inl (cI, 4, .inl kR)), (okP, .inl (cI, 4, .inl kP)), (okQ, .inl (cI, 4, .inl kQ)), (oli, .inl (cI, 1320, .inl li))] (some (.int rr)) [(oM, .inr (5, [.int mth, .int mpl, .ref obd, .int msd, .int mrt, .int mps, .int mqt, .int mmd, .ref opa, .ref opS, .ref opR, .ref opG, .ref opP, .ref opQ, .ref okp, .ref okS, .ref okR, .ref okP, .ref okQ, .ref oli])), (obd, .inl (cI, 64, .inl bd)), (opa, .inl (cI, 9664, .inl pa)), (opS, .inl (cI, 151, .inl pS)), (opR, .inl (cI, 151, .inl pR)), (opG, .inl (cI, 151, .inl pG)), (opP, .inl (cI, 151, .inl pP)), (opQ, .inl (cI, 151, .inl pQ)), (okp, .inl (cI, 256, .inl kp)), (okS, .inl (cI, 4, .inl kS)), (okR, .inl (cI, 4, .inl kR)), (okP, .inl (cI, 4, .inl kP)), (okQ, .inl (cI, 4, .inl kQ)), (oli, .inl (cI, 1320, .inl li))] := by
  refine qq_of (own := RR_M) (by decide) rfl (Nat.le_of_ble_eq_true rfl) ?_
  intro p e s m below meth c A Q ls hx hb hml hr hlocks hown hts hK hA hT hN hP hD hS hl hQ
  have hl : lv_has ls 5 [(0, .ref oM), (1, .int a1), (2, .int a2)] := hl
  have hL5 : ∀ (n5 : Nat) (x3 : Int32) (x4 : Int32) (H : Heap) (locs : List Loc) (ls : Array Slot), lv_has ls 5 [(0, .ref oM), (1, .int a1), (2, .int a2), (3, .int x3), (4, .int x4)] → va_P (dC, dI) classes [(oM, .inr (5, [.int mth, .int mpl, .ref obd, .int msd, .int mrt, .int mps, .int mqt, .int mmd, .ref opa, .ref opS, .ref opR, .ref opG, .ref opP, .ref opQ, .ref okp, .ref okS, .ref okR, .ref okP, .ref okQ, .ref oli])), (obd, .inl (cI, 64, .inl bd)), (opa, .inl (cI, 9664, .inl pa)), (opS, .inl (cI, 151, .inl pS)), (opR, .inl (cI, 151, .inl pR)), (opG, .inl (cI, 151, .inl pG)), (opP, .inl (cI, 151, .inl pP)), (opQ, .inl (cI, 151, .inl pQ)), (okp, .inl (cI, 256, .inl kp)), (okS, .inl (cI, 4, .inl kS)), (okR, .inl (cI, 4, .inl kR)), (okP, .inl (cI, 4, .inl kP)), (okQ, .inl (cI, 4, .inl kQ)), (oli, .inl (cI, 1320, .inl li))] H → va_D A [(oM, .inr (5, [.int mth, .int mpl, .ref obd, .int msd, .int mrt, .int mps, .int mqt, .int mmd, .ref opa, .ref opS, .ref opR, .ref opG, .ref opP, .ref opQ, .ref okp, .ref okS, .ref okR, .ref okP, .ref okQ, .ref oli])), (obd, .inl (cI, 64, .inl bd)), (opa, .inl (cI, 9664, .inl pa)), (opS, .inl (cI, 151, .inl pS)), (opR, .inl (cI, 151, .inl pR)), (opG, .inl (cI, 151, .inl pG)), (opP, .inl (cI, 151, .inl pP)), (opQ, .inl (cI, 151, .inl pQ)), (okp, .inl (cI, 256, .inl kp)), (okS, .inl (cI, 4, .inl kS)), (okR, .inl (cI, 4, .inl kR)), (okP, .inl (cI, 4, .inl kP)), (okQ, .inl (cI, 4, .inl kQ)), (oli, .inl (cI, 1320, .inl li))] → va_S A s.heap H locs → lo_M_many_5 bd a1 a2 n5 x3 x4 = some rr → W p l e rm_M_many s m ([.ref oM, .int a1, .int a2] : List Value).toArray below meth c H locs 0 0 Q (F0 m 5 ls []) := by
    intro n5
    induction n5 with
    | zero => exact fun x3 x4 H locs ls hl hP hD hS hf => absurd hf (by rw [lo_M_many_5_z]; exact fun h => by cases h)
    | succ n5 ih5 =>
      have hJ51 : ∀ (x4 : Int32) (s0 : Int32) (H : Heap) (locs : List Loc) (ls : Array Slot), lv_has ls 5 [(0, .ref oM), (1, .int a1), (2, .int a2), (4, .int x4)] → va_P (dC, dI) classes [(oM, .inr (5, [.int mth, .int mpl, .ref obd, .int msd, .int mrt, .int mps, .int mqt, .int mmd, .ref opa, .ref opS, .ref opR, .ref opG, .ref opP, .ref opQ, .ref okp, .ref okS, .ref okR, .ref okP, .ref okQ, .ref oli])), (obd, .inl (cI, 64, .inl bd)), (opa, .inl (cI, 9664, .inl pa)), (opS, .inl (cI, 151, .inl pS)), (opR, .inl (cI, 151, .inl pR)), (opG, .inl (cI, 151, .inl pG)), (opP, .inl (cI, 151, .inl pP)), (opQ, .inl (cI, 151, .inl pQ)), (okp, .inl (cI, 256, .inl kp)), (okS, .inl (cI, 4, .inl kS)), (okR, .inl (cI, 4, .inl kR)), (okP, .inl (cI, 4, .inl kP)), (okQ, .inl (cI, 4, .inl kQ)), (oli, .inl (cI, 1320, .inl li))] H → va_D A [(oM, .inr (5, [.int mth, .int mpl, .ref obd, .int msd, .int mrt, .int mps, .int mqt, .int mmd, .ref opa, .ref opS, .ref opR, .ref opG, .ref opP, .ref opQ, .ref okp, .ref okS, .ref okR, .ref okP, .ref okQ, .ref oli])), (obd, .inl (cI, 64, .inl bd)), (opa, .inl (cI, 9664, .inl pa)), (opS, .inl (cI, 151, .inl pS)), (opR, .inl (cI, 151, .inl pR)), (opG, .inl (cI, 151, .inl pG)), (opP, .inl (cI, 151, .inl pP)), (opQ, .inl (cI, 151, .inl pQ)), (okp, .inl (cI, 256, .inl kp)), (okS, .inl (cI, 4, .inl kS)), (okR, .inl (cI, 4, .inl kR)), (okP, .inl (cI, 4, .inl kP)), (okQ, .inl (cI, 4, .inl kQ)), (oli, .inl (cI, 1320, .inl li))] → va_S A s.heap H locs → bk_M_many_51 bd a1 a2 (lo_M_many_5 bd a1 a2 n5) x4 s0 = some rr → W p l e rm_M_many s m ([.ref oM, .int a1, .int a2] : List Value).toArray below meth c H locs 0 0 Q (F0 m 51 ls [.int s0]) := by
        intro x4 s0 H locs ls hl hP hD hS hf
        rw [bk_M_many_51] at hf
        refine lv_istore_n (lv' := [(3, .int s0), (0, .ref oM), (1, .int a1), (2, .int a2), (4, .int x4)]) hx hb dd_M_many_51 rfl hl (by decide) rfl (fun ls hl => ?_)
        obtain ⟨v1001, ev1001⟩ : ∃ z, z = x4 + 1 := ⟨_, rfl⟩
        replace hf := qq_lt ev1001 hf
        refine lv_iinc (k := 4) (v := v1001) (lv' := [(4, .int v1001), (3, .int s0), (0, .ref oM), (1, .int a1), (2, .int a2)]) hx hb dd_M_many_52 hl rfl (by rw [ev1001]; exact congrArg _ (by decide)) (by decide) rfl (fun ls hl => ?_)
        refine lv_goto (tgt := 5) hx hb dd_M_many_55 (by decide) ?_
        exact ih5 s0 v1001 _ _ _ (lv_sub hl [2, 3, 4, 1, 0] rfl) hP hD hS hf
      have hJ50 : ∀ (x3 : Int32) (x4 : Int32) (H : Heap) (locs : List Loc) (ls : Array Slot), lv_has ls 5 [(0, .ref oM), (1, .int a1), (2, .int a2), (3, .int x3), (4, .int x4)] → va_P (dC, dI) classes [(oM, .inr (5, [.int mth, .int mpl, .ref obd, .int msd, .int mrt, .int mps, .int mqt, .int mmd, .ref opa, .ref opS, .ref opR, .ref opG, .ref opP, .ref opQ, .ref okp, .ref okS, .ref okR, .ref okP, .ref okQ, .ref oli])), (obd, .inl (cI, 64, .inl bd)), (opa, .inl (cI, 9664, .inl pa)), (opS, .inl (cI, 151, .inl pS)), (opR, .inl (cI, 151, .inl pR)), (opG, .inl (cI, 151, .inl pG)), (opP, .inl (cI, 151, .inl pP)), (opQ, .inl (cI, 151, .inl pQ)), (okp, .inl (cI, 256, .inl kp)), (okS, .inl (cI, 4, .inl kS)), (okR, .inl (cI, 4, .inl kR)), (okP, .inl (cI, 4, .inl kP)), (okQ, .inl (cI, 4, .inl kQ)), (oli, .inl (cI, 1320, .inl li))] H → va_D A [(oM, .inr (5, [.int mth, .int mpl, .ref obd, .int msd, .int mrt, .int mps, .int mqt, .int mmd, .ref opa, .ref opS, .ref opR, .ref opG, .ref opP, .ref opQ, .ref okp, .ref okS, .ref okR, .ref okP, .ref okQ, .ref oli])), (obd, .inl (cI, 64, .inl bd)), (opa, .inl (cI, 9664, .inl pa)), (opS, .inl (cI, 151, .inl pS)), (opR, .inl (cI, 151, .inl pR)), (opG, .inl (cI, 151, .inl pG)), (opP, .inl (cI, 151, .inl pP)), (opQ, .inl (cI, 151, .inl pQ)), (okp, .inl (cI, 256, .inl kp)), (okS, .inl (cI, 4, .inl kS)), (okR, .inl (cI, 4, .inl kR)), (okP, .inl (cI, 4, .inl kP)), (okQ, .inl (cI, 4, .inl kQ)), (oli, .inl (cI, 1320, .inl li))] → va_S A s.heap H locs → bk_M_many_50 bd a1 a2 (lo_M_many_5 bd a1 a2 n5) x3 x4 = some rr → W p l e rm_M_many s m ([.ref oM, .int a1, .int a2] : List Value).toArray below meth c H locs 0 0 Q (F0 m 50 ls []) := by
        intro x3 x4 H locs ls hl hP hD hS hf
        rw [bk_M_many_50] at hf
        refine lv_iload_n hx hb dd_M_many_50 rfl (lv_at hl 3 rfl) ?_
        exact hJ51 x4 x3 _ _ _ (lv_sub hl [0, 1, 2, 4] rfl) hP hD hS hf
      have hJ44 : ∀ (x3 : Int32) (x4 : Int32) (H : Heap) (locs : List Loc) (ls : Array Slot), lv_has ls 5 [(0, .ref oM), (1, .int a1), (2, .int a2), (3, .int x3), (4, .int x4)] → va_P (dC, dI) classes [(oM, .inr (5, [.int mth, .int mpl, .ref obd, .int msd, .int mrt, .int mps, .int mqt, .int mmd, .ref opa, .ref opS, .ref opR, .ref opG, .ref opP, .ref opQ, .ref okp, .ref okS, .ref okR, .ref okP, .ref okQ, .ref oli])), (obd, .inl (cI, 64, .inl bd)), (opa, .inl (cI, 9664, .inl pa)), (opS, .inl (cI, 151, .inl pS)), (opR, .inl (cI, 151, .inl pR)), (opG, .inl (cI, 151, .inl pG)), (opP, .inl (cI, 151, .inl pP)), (opQ, .inl (cI, 151, .inl pQ)), (okp, .inl (cI, 256, .inl kp)), (okS, .inl (cI, 4, .inl kS)), (okR, .inl (cI, 4, .inl kR)), (okP, .inl (cI, 4, .inl kP)), (okQ, .inl (cI, 4, .inl kQ)), (oli, .inl (cI, 1320, .inl li))] H → va_D A [(oM, .inr (5, [.int mth, .int mpl, .ref obd, .int msd, .int mrt, .int mps, .int mqt, .int mmd, .ref opa, .ref opS, .ref opR, .ref opG, .ref opP, .ref opQ, .ref okp, .ref okS, .ref okR, .ref okP, .ref okQ, .ref oli])), (obd, .inl (cI, 64, .inl bd)), (opa, .inl (cI, 9664, .inl pa)), (opS, .inl (cI, 151, .inl pS)), (opR, .inl (cI, 151, .inl pR)), (opG, .inl (cI, 151, .inl pG)), (opP, .inl (cI, 151, .inl pP)), (opQ, .inl (cI, 151, .inl pQ)), (okp, .inl (cI, 256, .inl kp)), (okS, .inl (cI, 4, .inl kS)), (okR, .inl (cI, 4, .inl kR)), (okP, .inl (cI, 4, .inl kP)), (okQ, .inl (cI, 4, .inl kQ)), (oli, .inl (cI, 1320, .inl li))] → va_S A s.heap H locs → bk_M_many_44 bd a1 a2 (lo_M_many_5 bd a1 a2 n5) x3 x4 = some rr → W p l e rm_M_many s m ([.ref oM, .int a1, .int a2] : List Value).toArray below meth c H locs 0 0 Q (F0 m 44 ls []) := by
        intro x3 x4 H locs ls hl hP hD hS hf
        rw [bk_M_many_44] at hf
        refine lv_iload_n hx hb dd_M_many_44 rfl (lv_at hl 3 rfl) ?_
        refine lv_iconst (v := 1) hx hb dd_M_many_45 (by decide) ?_
        refine lv_iadd hx hb dd_M_many_46 ?_
        refine lv_goto (tgt := 51) hx hb dd_M_many_47 (by decide) ?_
        exact hJ51 x4 (x3 + 1) _ _ _ (lv_sub hl [0, 1, 2, 4] rfl) hP hD hS hf
      intro x3 x4 H locs ls hl hP hD hS hf
      rw [lo_M_many_5_s] at hf
      refine lv_iload hx hb dd_M_many_5 (lv_at hl 4 rfl) ?_
      refine lv_bipush (v := 64) hx hb dd_M_many_7 (by decide) ?_
      refine lv_icmp_ge (tgt := 58) hx hb dd_M_many_9 (by decide) (fun hc => ?_) (fun hc => ?_)
      · replace hf := qq_t hc hf
        refine lv_iload_n hx hb dd_M_many_58 rfl (lv_at hl 3 rfl) ?_
        cases hf
        exact qq_iret hx hb hr hlocks hQ hP hD hK hS dd_M_many_59
      · replace hf := qq_f hc hf
        refine lv_aload_n hx hb dd_M_many_12 rfl (lv_at hl 0 rfl) ?_
        refine va_get (D := (dC, dI)) (ci := 5) (v := .ref obd) (C := RR_M) (T := FF_M) (N := 20) hx hb hts uu_M hown hK hP 0 rfl rfl 2 (by decide) (hts _ mm_209) (fun _ h9 => h9) rfl dd_M_many_13 ?_
        refine lv_iload hx hb dd_M_many_16 (lv_at hl 4 rfl) ?_
        obtain ⟨hi4001, hf⟩ := qq_ckE hf
        refine va_iald (D := (dC, dI)) (f := bd) (n := 64) (cA := cI) hx hb hK hP 1 0 rfl rfl (qq_inE hi4001) dd_M_many_18 ?_
        refine lv_iload_n hx hb dd_M_many_19 rfl (lv_at hl 1 rfl) ?_
        obtain ⟨r4002, hy4002, hf⟩ := qq_bd hf
        refine qq_S (As := [.int (bd x4.toNatClampNeg), .int a1]) (rest := []) (wr := [(oM, .inr (5, [.int mth, .int mpl, .ref obd, .int msd, .int mrt, .int mps, .int mqt, .int mmd, .ref opa, .ref opS, .ref opR, .ref opG, .ref opP, .ref opQ, .ref okp, .ref okS, .ref okR, .ref okP, .ref okQ, .ref oli])), (obd, .inl (cI, 64, .inl bd)), (opa, .inl (cI, 9664, .inl pa)), (opS, .inl (cI, 151, .inl pS)), (opR, .inl (cI, 151, .inl pR)), (opG, .inl (cI, 151, .inl pG)), (opP, .inl (cI, 151, .inl pP)), (opQ, .inl (cI, 151, .inl pQ)), (okp, .inl (cI, 256, .inl kp)), (okS, .inl (cI, 4, .inl kS)), (okR, .inl (cI, 4, .inl kR)), (okP, .inl (cI, 4, .inl kP)), (okQ, .inl (cI, 4, .inl kQ)), (oli, .inl (cI, 1320, .inl li))]) (wf := [(oM, .inr (5, [.int mth, .int mpl, .ref obd, .int msd, .int mrt, .int mps, .int mqt, .int mmd, .ref opa, .ref opS, .ref opR, .ref opG, .ref opP, .ref opQ, .ref okp, .ref okS, .ref okR, .ref okP, .ref okQ, .ref oli])), (obd, .inl (cI, 64, .inl bd)), (opa, .inl (cI, 9664, .inl pa)), (opS, .inl (cI, 151, .inl pS)), (opR, .inl (cI, 151, .inl pR)), (opG, .inl (cI, 151, .inl pG)), (opP, .inl (cI, 151, .inl pP)), (opQ, .inl (cI, 151, .inl pQ)), (okp, .inl (cI, 256, .inl kp)), (okS, .inl (cI, 4, .inl kS)), (okR, .inl (cI, 4, .inl kR)), (okP, .inl (cI, 4, .inl kP)), (okQ, .inl (cI, 4, .inl kQ)), (oli, .inl (cI, 1320, .inl li))]) ⟨hx, hb, hml, hown, hts⟩ (ct_M_isOf l dC dI cI cL cR (bd x4.toNatClampNeg) a1 hy4002) mm_241 mm_242 mm_240 mm_211 hd_M_isOf (by decide) qq_00 hP hD hK hS hA hT hN [] [0, 1, 2, 3, 4, 5, 6, 7, 8, 9, 10, 11, 12, 13] [0, 1, 2, 3, 4, 5, 6, 7, 8, 9, 10, 11, 12, 13] rfl rfl rfl (by decide) rfl hl.1 rfl (Nat.le_of_ble_eq_true rfl) dd_M_many_20 (fun H locs hP hD hS => ?_)
        refine W.eq (g2 := F0 m 23 ls [.int r4002]) rfl ?_
        refine lv_if_eq (tgt := 50) hx hb dd_M_many_23 (by decide) (fun hc => ?_) (fun hc => ?_)
        · replace hf := qq_t hc hf
          exact hJ50 x3 x4 _ _ _ (lv_sub hl [0, 1, 2, 3, 4] rfl) hP hD hS hf
        · replace hf := qq_f hc hf
          refine lv_iload_n hx hb dd_M_many_26 rfl (lv_at hl 2 rfl) ?_
          refine lv_if_eq (tgt := 44) hx hb dd_M_many_27 (by decide) (fun hc => ?_) (fun hc => ?_)
          · replace hf := qq_t hc hf
            exact hJ44 x3 x4 _ _ _ (lv_sub hl [0, 1, 2, 3, 4] rfl) hP hD hS hf
          · replace hf := qq_f hc hf
            refine lv_aload_n hx hb dd_M_many_30 rfl (lv_at hl 0 rfl) ?_
            refine va_get (D := (dC, dI)) (ci := 5) (v := .ref obd) (C := RR_M) (T := FF_M) (N := 20) hx hb hts uu_M hown hK hP 0 rfl rfl 2 (by decide) (hts _ mm_209) (fun _ h9 => h9) rfl dd_M_many_31 ?_
            refine lv_iload hx hb dd_M_many_34 (lv_at hl 4 rfl) ?_
            obtain ⟨hi4003, hf⟩ := qq_ckE hf
            refine va_iald (D := (dC, dI)) (f := bd) (n := 64) (cA := cI) hx hb hK hP 1 0 rfl rfl (qq_inE hi4003) dd_M_many_36 ?_
            obtain ⟨r4004, hy4004, hf⟩ := qq_bd hf
            refine qq_S (As := [.int (bd x4.toNatClampNeg)]) (rest := []) (wr := [(oM, .inr (5, [.int mth, .int mpl, .ref obd, .int msd, .int mrt, .int mps, .int mqt, .int mmd, .ref opa, .ref opS, .ref opR, .ref opG, .ref opP, .ref opQ, .ref okp, .ref okS, .ref okR, .ref okP, .ref okQ, .ref oli])), (obd, .inl (cI, 64, .inl bd)), (opa, .inl (cI, 9664, .inl pa)), (opS, .inl (cI, 151, .inl pS)), (opR, .inl (cI, 151, .inl pR)), (opG, .inl (cI, 151, .inl pG)), (opP, .inl (cI, 151, .inl pP)), (opQ, .inl (cI, 151, .inl pQ)), (okp, .inl (cI, 256, .inl kp)), (okS, .inl (cI, 4, .inl kS)), (okR, .inl (cI, 4, .inl kR)), (okP, .inl (cI, 4, .inl kP)), (okQ, .inl (cI, 4, .inl kQ)), (oli, .inl (cI, 1320, .inl li))]) (wf := [(oM, .inr (5, [.int mth, .int mpl, .ref obd, .int msd, .int mrt, .int mps, .int mqt, .int mmd, .ref opa, .ref opS, .ref opR, .ref opG, .ref opP, .ref opQ, .ref okp, .ref okS, .ref okR, .ref okP, .ref okQ, .ref oli])), (obd, .inl (cI, 64, .inl bd)), (opa, .inl (cI, 9664, .inl pa)), (opS, .inl (cI, 151, .inl pS)), (opR, .inl (cI, 151, .inl pR)), (opG, .inl (cI, 151, .inl pG)), (opP, .inl (cI, 151, .inl pP)), (opQ, .inl (cI, 151, .inl pQ)), (okp, .inl (cI, 256, .inl kp)), (okS, .inl (cI, 4, .inl kS)), (okR, .inl (cI, 4, .inl kR)), (okP, .inl (cI, 4, .inl kP)), (okQ, .inl (cI, 4, .inl kQ)), (oli, .inl (cI, 1320, .inl li))]) ⟨hx, hb, hml, hown, hts⟩ (ct_M_kindOf l dC dI cI cL cR (bd x4.toNatClampNeg) hy4004) mm_222 mm_223 mm_221 mm_211 hd_M_kindOf (by decide) qq_00 hP hD hK hS hA hT hN [] [0, 1, 2, 3, 4, 5, 6, 7, 8, 9, 10, 11, 12, 13] [0, 1, 2, 3, 4, 5, 6, 7, 8, 9, 10, 11, 12, 13] rfl rfl rfl (by decide) rfl hl.1 rfl (Nat.le_of_ble_eq_true rfl) dd_M_many_37 (fun H locs hP hD hS => ?_)
            refine W.eq (g2 := F0 m 40 ls [.int r4004]) rfl ?_
            refine lv_iload_n hx hb dd_M_many_40 rfl (lv_at hl 2 rfl) ?_
            refine lv_icmp_ne (tgt := 50) hx hb dd_M_many_41 (by decide) (fun hc => ?_) (fun hc => ?_)
            · replace hf := qq_f hc hf
              exact hJ50 x3 x4 _ _ _ (lv_sub hl [0, 1, 2, 3, 4] rfl) hP hD hS hf
            · replace hf := qq_t hc hf
              exact hJ44 x3 x4 _ _ _ (lv_sub hl [0, 1, 2, 3, 4] rfl) hP hD hS hf
  rw [fn_M_many] at hf
  refine lv_iconst (v := 0) hx hb dd_M_many_0 (by decide) ?_
  refine lv_istore_n (lv' := [(3, .int 0), (0, .ref oM), (1, .int a1), (2, .int a2)]) hx hb dd_M_many_1 rfl hl (by decide) rfl (fun ls hl => ?_)
  refine lv_iconst (v := 0) hx hb dd_M_many_2 (by decide) ?_
  refine lv_istore (lv' := [(4, .int 0), (3, .int 0), (0, .ref oM), (1, .int a1), (2, .int a2)]) hx hb dd_M_many_3 hl (by decide) rfl (fun ls hl => ?_)
  exact hL5 qq_FU 0 0 _ _ _ (lv_sub hl [2, 3, 4, 1, 0] rfl) hP hD hS hf
theorem dd_M_isCrowd_0 : decode bb_M_isCrowd 0 = .ok (.iconst 1, 1) := by decide +kernel
theorem dd_M_isCrowd_1 : decode bb_M_isCrowd 1 = .ok (.istore_n 1, 1) := by decide +kernel
theorem dd_M_isCrowd_2 : decode bb_M_isCrowd 2 = .ok (.iconst 0, 1) := by decide +kernel
theorem dd_M_isCrowd_3 : decode bb_M_isCrowd 3 = .ok (.istore_n 2, 1) := by decide +kernel
theorem dd_M_isCrowd_4 : decode bb_M_isCrowd 4 = .ok (.iload_n 2, 1) := by decide +kernel
theorem dd_M_isCrowd_5 : decode bb_M_isCrowd 5 = .ok (.iconst 2, 1) := by decide +kernel
theorem dd_M_isCrowd_6 : decode bb_M_isCrowd 6 = .ok (.if_icmp .ge 41, 3) := by decide +kernel
theorem dd_M_isCrowd_9 : decode bb_M_isCrowd 9 = .ok (.iload_n 1, 1) := by decide +kernel
theorem dd_M_isCrowd_10 : decode bb_M_isCrowd 10 = .ok (.ifCond .eq 29, 3) := by decide +kernel
theorem dd_M_isCrowd_13 : decode bb_M_isCrowd 13 = .ok (.aload_n 0, 1) := by decide +kernel
theorem dd_M_isCrowd_14 : decode bb_M_isCrowd 14 = .ok (.iload_n 2, 1) := by decide +kernel
theorem dd_M_isCrowd_15 : decode bb_M_isCrowd 15 = .ok (.bipush 6, 2) := by decide +kernel
theorem dd_M_isCrowd_17 : decode bb_M_isCrowd 17 = .ok (.invokevirtual 168, 3) := by decide +kernel
theorem dd_M_isCrowd_20 : decode bb_M_isCrowd 20 = .ok (.iconst 1, 1) := by decide +kernel
theorem dd_M_isCrowd_21 : decode bb_M_isCrowd 21 = .ok (.if_icmp .ne 18, 3) := by decide +kernel
theorem dd_M_isCrowd_24 : decode bb_M_isCrowd 24 = .ok (.aload_n 0, 1) := by decide +kernel
theorem dd_M_isCrowd_25 : decode bb_M_isCrowd 25 = .ok (.iload_n 2, 1) := by decide +kernel
theorem dd_M_isCrowd_26 : decode bb_M_isCrowd 26 = .ok (.iconst 0, 1) := by decide +kernel
theorem dd_M_isCrowd_27 : decode bb_M_isCrowd 27 = .ok (.invokevirtual 168, 3) := by decide +kernel
theorem dd_M_isCrowd_30 : decode bb_M_isCrowd 30 = .ok (.bipush 16, 2) := by decide +kernel
theorem dd_M_isCrowd_32 : decode bb_M_isCrowd 32 = .ok (.if_icmp .gt 7, 3) := by decide +kernel
theorem dd_M_isCrowd_35 : decode bb_M_isCrowd 35 = .ok (.iconst 1, 1) := by decide +kernel
theorem dd_M_isCrowd_36 : decode bb_M_isCrowd 36 = .ok (.goto 4, 3) := by decide +kernel
theorem dd_M_isCrowd_39 : decode bb_M_isCrowd 39 = .ok (.iconst 0, 1) := by decide +kernel
theorem dd_M_isCrowd_40 : decode bb_M_isCrowd 40 = .ok (.istore_n 1, 1) := by decide +kernel
theorem dd_M_isCrowd_41 : decode bb_M_isCrowd 41 = .ok (.iinc 2 1, 3) := by decide +kernel
theorem dd_M_isCrowd_44 : decode bb_M_isCrowd 44 = .ok (.goto (-40), 3) := by decide +kernel
theorem dd_M_isCrowd_47 : decode bb_M_isCrowd 47 = .ok (.iconst 0, 1) := by decide +kernel
theorem dd_M_isCrowd_48 : decode bb_M_isCrowd 48 = .ok (.istore_n 2, 1) := by decide +kernel
theorem dd_M_isCrowd_49 : decode bb_M_isCrowd 49 = .ok (.iload_n 2, 1) := by decide +kernel
theorem dd_M_isCrowd_50 : decode bb_M_isCrowd 50 = .ok (.bipush 8, 2) := by decide +kernel
theorem dd_M_isCrowd_52 : decode bb_M_isCrowd 52 = .ok (.if_icmp .ge 48, 3) := by decide +kernel
theorem dd_M_isCrowd_55 : decode bb_M_isCrowd 55 = .ok (.iload_n 1, 1) := by decide +kernel
theorem dd_M_isCrowd_56 : decode bb_M_isCrowd 56 = .ok (.ifCond .eq 36, 3) := by decide +kernel
theorem dd_M_isCrowd_59 : decode bb_M_isCrowd 59 = .ok (.aload_n 0, 1) := by decide +kernel
theorem dd_M_isCrowd_60 : decode bb_M_isCrowd 60 = .ok (.getfield 7, 3) := by decide +kernel
theorem dd_M_isCrowd_63 : decode bb_M_isCrowd 63 = .ok (.iload_n 2, 1) := by decide +kernel
theorem dd_M_isCrowd_64 : decode bb_M_isCrowd 64 = .ok (.iaload, 1) := by decide +kernel
theorem dd_M_isCrowd_65 : decode bb_M_isCrowd 65 = .ok (.invokestatic 73, 3) := by decide +kernel
theorem dd_M_isCrowd_68 : decode bb_M_isCrowd 68 = .ok (.iconst 1, 1) := by decide +kernel
theorem dd_M_isCrowd_69 : decode bb_M_isCrowd 69 = .ok (.if_icmp .eq 23, 3) := by decide +kernel
theorem dd_M_isCrowd_72 : decode bb_M_isCrowd 72 = .ok (.aload_n 0, 1) := by decide +kernel
theorem dd_M_isCrowd_73 : decode bb_M_isCrowd 73 = .ok (.getfield 7, 3) := by decide +kernel
theorem dd_M_isCrowd_76 : decode bb_M_isCrowd 76 = .ok (.bipush 56, 2) := by decide +kernel
theorem dd_M_isCrowd_78 : decode bb_M_isCrowd 78 = .ok (.iload_n 2, 1) := by decide +kernel
theorem dd_M_isCrowd_79 : decode bb_M_isCrowd 79 = .ok (.iadd, 1) := by decide +kernel
theorem dd_M_isCrowd_80 : decode bb_M_isCrowd 80 = .ok (.iaload, 1) := by decide +kernel
theorem dd_M_isCrowd_81 : decode bb_M_isCrowd 81 = .ok (.invokestatic 73, 3) := by decide +kernel
theorem dd_M_isCrowd_84 : decode bb_M_isCrowd 84 = .ok (.iconst 1, 1) := by decide +kernel
theorem dd_M_isCrowd_85 : decode bb_M_isCrowd 85 = .ok (.if_icmp .eq 7, 3) := by decide +kernel
theorem dd_M_isCrowd_88 : decode bb_M_isCrowd 88 = .ok (.iconst 1, 1) := by decide +kernel
theorem dd_M_isCrowd_89 : decode bb_M_isCrowd 89 = .ok (.goto 4, 3) := by decide +kernel
theorem dd_M_isCrowd_92 : decode bb_M_isCrowd 92 = .ok (.iconst 0, 1) := by decide +kernel
theorem dd_M_isCrowd_93 : decode bb_M_isCrowd 93 = .ok (.istore_n 1, 1) := by decide +kernel
theorem dd_M_isCrowd_94 : decode bb_M_isCrowd 94 = .ok (.iinc 2 1, 3) := by decide +kernel
theorem dd_M_isCrowd_97 : decode bb_M_isCrowd 97 = .ok (.goto (-48), 3) := by decide +kernel
theorem dd_M_isCrowd_100 : decode bb_M_isCrowd 100 = .ok (.iload_n 1, 1) := by decide +kernel
theorem dd_M_isCrowd_101 : decode bb_M_isCrowd 101 = .ok (.ireturn, 1) := by decide +kernel
abbrev ty_M_isCrowd : Type := Int32
noncomputable def bk_M_isCrowd_93 (bd : Nat → Int32) (k49 : Int32 → Int32 → Option ty_M_isCrowd) (x2 : Int32) (s0 : Int32) : Option ty_M_isCrowd := qq_let (x2 + 1) fun v1001 => k49 s0 v1001
noncomputable def bk_M_isCrowd_92 (bd : Nat → Int32) (k49 : Int32 → Int32 → Option ty_M_isCrowd) (x2 : Int32) : Option ty_M_isCrowd := bk_M_isCrowd_93 bd k49 x2 0
noncomputable def lo_M_isCrowd_49 (bd : Nat → Int32) : Nat → Int32 → Int32 → Option ty_M_isCrowd
  | 0, _, _ => none
  | n + 1, x1, x2 => if 8 ≤ x2 then (qq_ck (qq_b x1) <| some x1) else (if x1 = 0 then (bk_M_isCrowd_92 bd (lo_M_isCrowd_49 bd n) x2) else (qq_ck (qq_in x2 64) <| (fn_M_kindOf (bd x2.toNatClampNeg)).bind fun r3002 => if r3002 = 1 then (bk_M_isCrowd_92 bd (lo_M_isCrowd_49 bd n) x2) else (qq_ck (qq_in (56 + x2) 64) <| (fn_M_kindOf (bd (56 + x2).toNatClampNeg)).bind fun r3004 => if r3004 = 1 then (bk_M_isCrowd_92 bd (lo_M_isCrowd_49 bd n) x2) else (bk_M_isCrowd_93 bd (lo_M_isCrowd_49 bd n) x2 1))))
theorem lo_M_isCrowd_49_z (bd : Nat → Int32) (x1 : Int32) (x2 : Int32) : lo_M_isCrowd_49 bd 0 x1 x2 = none := rfl
theorem lo_M_isCrowd_49_s (bd : Nat → Int32) (x1 : Int32) (x2 : Int32) (n : Nat) : lo_M_isCrowd_49 bd (n + 1) x1 x2 = (if 8 ≤ x2 then (qq_ck (qq_b x1) <| some x1) else (if x1 = 0 then (bk_M_isCrowd_92 bd (lo_M_isCrowd_49 bd n) x2) else (qq_ck (qq_in x2 64) <| (fn_M_kindOf (bd x2.toNatClampNeg)).bind fun r3002 => if r3002 = 1 then (bk_M_isCrowd_92 bd (lo_M_isCrowd_49 bd n) x2) else (qq_ck (qq_in (56 + x2) 64) <| (fn_M_kindOf (bd (56 + x2).toNatClampNeg)).bind fun r3004 => if r3004 = 1 then (bk_M_isCrowd_92 bd (lo_M_isCrowd_49 bd n) x2) else (bk_M_isCrowd_93 bd (lo_M_isCrowd_49 bd n) x2 1))))) := rfl
noncomputable def bk_M_isCrowd_40 (bd : Nat → Int32) (k4 : Int32 → Int32 → Option ty_M_isCrowd) (x2 : Int32) (s0 : Int32) : Option ty_M_isCrowd := qq_let (x2 + 1) fun v4001 => k4 s0 v4001
noncomputable def bk_M_isCrowd_39 (bd : Nat → Int32) (k4 : Int32 → Int32 → Option ty_M_isCrowd) (x2 : Int32) : Option ty_M_isCrowd := bk_M_isCrowd_40 bd k4 x2 0
noncomputable def lo_M_isCrowd_4 (bd : Nat → Int32) : Nat → Int32 → Int32 → Option ty_M_isCrowd
  | 0, _, _ => none
  | n + 1, x1, x2 => if 2 ≤ x2 then (lo_M_isCrowd_49 bd qq_FU x1 0) else (if x1 = 0 then (bk_M_isCrowd_39 bd (lo_M_isCrowd_4 bd n) x2) else ((fn_M_many bd x2 6).bind fun r6001 => if r6001 = 1 then ((fn_M_many bd x2 0).bind fun r6002 => if 16 < r6002 then (bk_M_isCrowd_39 bd (lo_M_isCrowd_4 bd n) x2) else (bk_M_isCrowd_40 bd (lo_M_isCrowd_4 bd n) x2 1)) else (bk_M_isCrowd_39 bd (lo_M_isCrowd_4 bd n) x2)))
theorem lo_M_isCrowd_4_z (bd : Nat → Int32) (x1 : Int32) (x2 : Int32) : lo_M_isCrowd_4 bd 0 x1 x2 = none := rfl
theorem lo_M_isCrowd_4_s (bd : Nat → Int32) (x1 : Int32) (x2 : Int32) (n : Nat) : lo_M_isCrowd_4 bd (n + 1) x1 x2 = (if 2 ≤ x2 then (lo_M_isCrowd_49 bd qq_FU x1 0) else (if x1 = 0 then (bk_M_isCrowd_39 bd (lo_M_isCrowd_4 bd n) x2) else ((fn_M_many bd x2 6).bind fun r6001 => if r6001 = 1 then ((fn_M_many bd x2 0).bind fun r6002 => if 16 < r6002 then (bk_M_isCrowd_39 bd (lo_M_isCrowd_4 bd n) x2) else (bk_M_isCrowd_40 bd (lo_M_isCrowd_4 bd n) x2 1)) else (bk_M_isCrowd_39 bd (lo_M_isCrowd_4 bd n) x2)))) := rfl
noncomputable def fn_M_isCrowd (bd : Nat → Int32) : Option ty_M_isCrowd := lo_M_isCrowd_4 bd qq_FU 1 0
abbrev rm_M_isCrowd : Room := { frames := 2, cells := 0, slots := 0, locals := 45 }
set_option maxHeartbeats 4000000 in
set_option maxRecDepth 100000 in
theorem ct_M_isCrowd (l : Launch) (dC : Nat → ClassId) (dI : Nat → Nat → Nat) (cI cL cR : ClassId) (oM obd opa opS opR opG opP opQ okp okS okR okP okQ oli : Nat) (mth : Int32) (mpl : Int32) (msd : Int32) (mrt : Int32) (mps : Int32) (mqt : Int32) (mmd : Int32) (bd : Nat → Int32) (pa : Nat → Int32) (pS : Nat → Int32) (pR : Nat → Int32) (pG : Nat → Int32) (pP : Nat → Int32) (pQ : Nat → Int32) (kp : Nat → Int32) (kS : Nat → Int32) (kR : Nat → Int32) (kP : Nat → Int32) (kQ : Nat → Int32) (li : Nat → Int32) {rr : Int32} (hf : fn_M_isCrowd bd = some rr) : qq_det l yy_M_isCrowd (ww_of yy_M_isCrowd bb_M_isCrowd 3 (some .boolean)) rm_M_isCrowd (dC, dI) (qq_ty cI cL cR) [.ref oM] [(oM, .inr (5, [.int mth, .int mpl, .ref obd, .int msd, .int mrt, .int mps, .int mqt, .int mmd, .ref opa, .ref opS, .ref opR, .ref opG, .ref opP, .ref opQ, .ref okp, .ref okS, .ref okR, .ref okP, .ref okQ, .ref oli])), (obd, .inl (cI, 64, .inl bd)), (opa, .inl (cI, 9664, .inl pa)), (opS, .inl (cI, 151, .inl pS)), (opR, .inl (cI, 151, .inl pR)), (opG, .inl (cI, 151, .inl pG)), (opP, .inl (cI, 151, .inl pP)), (opQ, .inl (cI, 151, .inl pQ)), (okp, .inl (cI, 256, .inl kp)), (okS, .inl (cI, 4, .inl kS)), (okR, .inl (cI, 4, .inl kR)), (okP, .inl (cI, 4, .inl kP)), (okQ, .inl (cI, 4, .inl kQ)), (oli, .inl (cI, 1320, .inl li))] (some (.int rr)) [(oM, .inr (5, [.int mth, .int mpl, .ref obd, .int msd, .int mrt, .int mps, .int mqt, .int mmd, .ref opa, .ref opS, .ref opR, .ref opG, .ref opP, .ref opQ, .ref okp, .ref okS, .ref okR, .ref okP, .ref okQ, .ref oli])), (obd, .inl (cI, 64, .inl bd)), (opa, .inl (cI, 9664, .inl pa)), (opS, .inl (cI, 151, .inl pS)), (opR, .inl (cI, 151, .inl pR)), (opG, .inl (cI, 151, .inl pG)), (opP, .inl (cI, 151, .inl pP)), (opQ, .inl (cI, 151, .inl pQ)), (okp, .inl (cI, 256, .inl kp)), (okS, .inl (cI, 4, .inl kS)), (okR, .inl (cI, 4, .inl kR)), (okP, .inl (cI, 4, .inl kP)), (okQ, .inl (cI, 4, .inl kQ)), (oli, .inl (cI, 1320, .inl li))] := by
  refine qq_of (own := RR_M) (by decide) rfl (Nat.le_of_ble_eq_true rfl) ?_
  intro p e s m below meth c A Q ls hx hb hml hr hlocks hown hts hK hA hT hN hP hD hS hl hQ
  have hl : lv_has ls 3 [(0, .ref oM)] := hl
  have hL49 : ∀ (n49 : Nat) (x1 : Int32) (x2 : Int32) (H : Heap) (locs : List Loc) (ls : Array Slot), lv_has ls 3 [(0, .ref oM), (1, .int x1), (2, .int x2)] → va_P (dC, dI) classes [(oM, .inr (5, [.int mth, .int mpl, .ref obd, .int msd, .int mrt, .int mps, .int mqt, .int mmd, .ref opa, .ref opS, .ref opR, .ref opG, .ref opP, .ref opQ, .ref okp, .ref okS, .ref okR, .ref okP, .ref okQ, .ref oli])), (obd, .inl (cI, 64, .inl bd)), (opa, .inl (cI, 9664, .inl pa)), (opS, .inl (cI, 151, .inl pS)), (opR, .inl (cI, 151, .inl pR)), (opG, .inl (cI, 151, .inl pG)), (opP, .inl (cI, 151, .inl pP)), (opQ, .inl (cI, 151, .inl pQ)), (okp, .inl (cI, 256, .inl kp)), (okS, .inl (cI, 4, .inl kS)), (okR, .inl (cI, 4, .inl kR)), (okP, .inl (cI, 4, .inl kP)), (okQ, .inl (cI, 4, .inl kQ)), (oli, .inl (cI, 1320, .inl li))] H → va_D A [(oM, .inr (5, [.int mth, .int mpl, .ref obd, .int msd, .int mrt, .int mps, .int mqt, .int mmd, .ref opa, .ref opS, .ref opR, .ref opG, .ref opP, .ref opQ, .ref okp, .ref okS, .ref okR, .ref okP, .ref okQ, .ref oli])), (obd, .inl (cI, 64, .inl bd)), (opa, .inl (cI, 9664, .inl pa)), (opS, .inl (cI, 151, .inl pS)), (opR, .inl (cI, 151, .inl pR)), (opG, .inl (cI, 151, .inl pG)), (opP, .inl (cI, 151, .inl pP)), (opQ, .inl (cI, 151, .inl pQ)), (okp, .inl (cI, 256, .inl kp)), (okS, .inl (cI, 4, .inl kS)), (okR, .inl (cI, 4, .inl kR)), (okP, .inl (cI, 4, .inl kP)), (okQ, .inl (cI, 4, .inl kQ)), (oli, .inl (cI, 1320, .inl li))] → va_S A s.heap H locs → lo_M_isCrowd_49 bd n49 x1 x2 = some rr → W p l e rm_M_isCrowd s m ([.ref oM] : List Value).toArray below meth c H locs 0 0 Q (F0 m 49 ls []) := by
    intro n49
    induction n49 with
    | zero => exact fun x1 x2 H locs ls hl hP hD hS hf => absurd hf (by rw [lo_M_isCrowd_49_z]; exact fun h => by cases h)
    | succ n49 ih49 =>
      have hJ93 : ∀ (x2 : Int32) (s0 : Int32) (H : Heap) (locs : List Loc) (ls : Array Slot), lv_has ls 3 [(0, .ref oM), (2, .int x2)] → va_P (dC, dI) classes [(oM, .inr (5, [.int mth, .int mpl, .ref obd, .int msd, .int mrt, .int mps, .int mqt, .int mmd, .ref opa, .ref opS, .ref opR, .ref opG, .ref opP, .ref opQ, .ref okp, .ref okS, .ref okR, .ref okP, .ref okQ, .ref oli])), (obd, .inl (cI, 64, .inl bd)), (opa, .inl (cI, 9664, .inl pa)), (opS, .inl (cI, 151, .inl pS)), (opR, .inl (cI, 151, .inl pR)), (opG, .inl (cI, 151, .inl pG)), (opP, .inl (cI, 151, .inl pP)), (opQ, .inl (cI, 151, .inl pQ)), (okp, .inl (cI, 256, .inl kp)), (okS, .inl (cI, 4, .inl kS)), (okR, .inl (cI, 4, .inl kR)), (okP, .inl (cI, 4, .inl kP)), (okQ, .inl (cI, 4, .inl kQ)), (oli, .inl (cI, 1320, .inl li))] H → va_D A [(oM, .inr (5, [.int mth, .int mpl, .ref obd, .int msd, .int mrt, .int mps, .int mqt, .int mmd, .ref opa, .ref opS, .ref opR, .ref opG, .ref opP, .ref opQ, .ref okp, .ref okS, .ref okR, .ref okP, .ref okQ, .ref oli])), (obd, .inl (cI, 64, .inl bd)), (opa, .inl (cI, 9664, .inl pa)), (opS, .inl (cI, 151, .inl pS)), (opR, .inl (cI, 151, .inl pR)), (opG, .inl (cI, 151, .inl pG)), (opP, .inl (cI, 151, .inl pP)), (opQ, .inl (cI, 151, .inl pQ)), (okp, .inl (cI, 256, .inl kp)), (okS, .inl (cI, 4, .inl kS)), (okR, .inl (cI, 4, .inl kR)), (okP, .inl (cI, 4, .inl kP)), (okQ, .inl (cI, 4, .inl kQ)), (oli, .inl (cI, 1320, .inl li))] → va_S A s.heap H locs → bk_M_isCrowd_93 bd (lo_M_isCrowd_49 bd n49) x2 s0 = some rr → W p l e rm_M_isCrowd s m ([.ref oM] : List Value).toArray below meth c H locs 0 0 Q (F0 m 93 ls [.int s0]) := by
        intro x2 s0 H locs ls hl hP hD hS hf
        rw [bk_M_isCrowd_93] at hf
        refine lv_istore_n (lv' := [(1, .int s0), (0, .ref oM), (2, .int x2)]) hx hb dd_M_isCrowd_93 rfl hl (by decide) rfl (fun ls hl => ?_)
        obtain ⟨v1001, ev1001⟩ : ∃ z, z = x2 + 1 := ⟨_, rfl⟩
        replace hf := qq_lt ev1001 hf
        refine lv_iinc (k := 2) (v := v1001) (lv' := [(2, .int v1001), (1, .int s0), (0, .ref oM)]) hx hb dd_M_isCrowd_94 hl rfl (by rw [ev1001]; exact congrArg _ (by decide)) (by decide) rfl (fun ls hl => ?_)
        refine lv_goto (tgt := 49) hx hb dd_M_isCrowd_97 (by decide) ?_
        exact ih49 s0 v1001 _ _ _ (lv_sub hl [2, 1, 0] rfl) hP hD hS hf
      have hJ92 : ∀ (x2 : Int32) (H : Heap) (locs : List Loc) (ls : Array Slot), lv_has ls 3 [(0, .ref oM), (2, .int x2)] → va_P (dC, dI) classes [(oM, .inr (5, [.int mth, .int mpl, .ref obd, .int msd, .int mrt, .int mps, .int mqt, .int mmd, .ref opa, .ref opS, .ref opR, .ref opG, .ref opP, .ref opQ, .ref okp, .ref okS, .ref okR, .ref okP, .ref okQ, .ref oli])), (obd, .inl (cI, 64, .inl bd)), (opa, .inl (cI, 9664, .inl pa)), (opS, .inl (cI, 151, .inl pS)), (opR, .inl (cI, 151, .inl pR)), (opG, .inl (cI, 151, .inl pG)), (opP, .inl (cI, 151, .inl pP)), (opQ, .inl (cI, 151, .inl pQ)), (okp, .inl (cI, 256, .inl kp)), (okS, .inl (cI, 4, .inl kS)), (okR, .inl (cI, 4, .inl kR)), (okP, .inl (cI, 4, .inl kP)), (okQ, .inl (cI, 4, .inl kQ)), (oli, .inl (cI, 1320, .inl li))] H → va_D A [(oM, .inr (5, [.int mth, .int mpl, .ref obd, .int msd, .int mrt, .int mps, .int mqt, .int mmd, .ref opa, .ref opS, .ref opR, .ref opG, .ref opP, .ref opQ, .ref okp, .ref okS, .ref okR, .ref okP, .ref okQ, .ref oli])), (obd, .inl (cI, 64, .inl bd)), (opa, .inl (cI, 9664, .inl pa)), (opS, .inl (cI, 151, .inl pS)), (opR, .inl (cI, 151, .inl pR)), (opG, .inl (cI, 151, .inl pG)), (opP, .inl (cI, 151, .inl pP)), (opQ, .inl (cI, 151, .inl pQ)), (okp, .inl (cI, 256, .inl kp)), (okS, .inl (cI, 4, .inl kS)), (okR, .inl (cI, 4, .inl kR)), (okP, .inl (cI, 4, .inl kP)), (okQ, .inl (cI, 4, .inl kQ)), (oli, .inl (cI, 1320, .inl li))] → va_S A s.heap H locs → bk_M_isCrowd_92 bd (lo_M_isCrowd_49 bd n49) x2 = some rr → W p l e rm_M_isCrowd s m ([.ref oM] : List Value).toArray below meth c H locs 0 0 Q (F0 m 92 ls []) := by
        intro x2 H locs ls hl hP hD hS hf
        rw [bk_M_isCrowd_92] at hf
        refine lv_iconst (v := 0) hx hb dd_M_isCrowd_92 (by decide) ?_
        exact hJ93 x2 0 _ _ _ (lv_sub hl [0, 1] rfl) hP hD hS hf
      intro x1 x2 H locs ls hl hP hD hS hf
      rw [lo_M_isCrowd_49_s] at hf
      refine lv_iload_n hx hb dd_M_isCrowd_49 rfl (lv_at hl 2 rfl) ?_
      refine lv_bipush (v := 8) hx hb dd_M_isCrowd_50 (by decide) ?_
      refine lv_icmp_ge (tgt := 100) hx hb dd_M_isCrowd_52 (by decide) (fun hc => ?_) (fun hc => ?_)
      · replace hf := qq_t hc hf
        refine lv_iload_n hx hb dd_M_isCrowd_100 rfl (lv_at hl 1 rfl) ?_
        obtain ⟨hzb, hf⟩ := qq_ckE hf
        cases hf
        exact qq_zret hx hb hr (qq_bE hzb) hlocks hQ hP hD hK hS dd_M_isCrowd_101
      · replace hf := qq_f hc hf
        refine lv_iload_n hx hb dd_M_isCrowd_55 rfl (lv_at hl 1 rfl) ?_
        refine lv_if_eq (tgt := 92) hx hb dd_M_isCrowd_56 (by decide) (fun hc => ?_) (fun hc => ?_)
        · replace hf := qq_t hc hf
          exact hJ92 x2 _ _ _ (lv_sub hl [0, 2] rfl) hP hD hS hf
        · replace hf := qq_f hc hf
          refine lv_aload_n hx hb dd_M_isCrowd_59 rfl (lv_at hl 0 rfl) ?_
          refine va_get (D := (dC, dI)) (ci := 5) (v := .ref obd) (C := RR_M) (T := FF_M) (N := 20) hx hb hts uu_M hown hK hP 0 rfl rfl 2 (by decide) (hts _ mm_209) (fun _ h9 => h9) rfl dd_M_isCrowd_60 ?_
          refine lv_iload_n hx hb dd_M_isCrowd_63 rfl (lv_at hl 2 rfl) ?_
          obtain ⟨hi3001, hf⟩ := qq_ckE hf
          refine va_iald (D := (dC, dI)) (f := bd) (n := 64) (cA := cI) hx hb hK hP 1 0 rfl rfl (qq_inE hi3001) dd_M_isCrowd_64 ?_
          obtain ⟨r3002, hy3002, hf⟩ := qq_bd hf
          refine qq_S (As := [.int (bd x2.toNatClampNeg)]) (rest := []) (wr := [(oM, .inr (5, [.int mth, .int mpl, .ref obd, .int msd, .int mrt, .int mps, .int mqt, .int mmd, .ref opa, .ref opS, .ref opR, .ref opG, .ref opP, .ref opQ, .ref okp, .ref okS, .ref okR, .ref okP, .ref okQ, .ref oli])), (obd, .inl (cI, 64, .inl bd)), (opa, .inl (cI, 9664, .inl pa)), (opS, .inl (cI, 151, .inl pS)), (opR, .inl (cI, 151, .inl pR)), (opG, .inl (cI, 151, .inl pG)), (opP, .inl (cI, 151, .inl pP)), (opQ, .inl (cI, 151, .inl pQ)), (okp, .inl (cI, 256, .inl kp)), (okS, .inl (cI, 4, .inl kS)), (okR, .inl (cI, 4, .inl kR)), (okP, .inl (cI, 4, .inl kP)), (okQ, .inl (cI, 4, .inl kQ)), (oli, .inl (cI, 1320, .inl li))]) (wf := [(oM, .inr (5, [.int mth, .int mpl, .ref obd, .int msd, .int mrt, .int mps, .int mqt, .int mmd, .ref opa, .ref opS, .ref opR, .ref opG, .ref opP, .ref opQ, .ref okp, .ref okS, .ref okR, .ref okP, .ref okQ, .ref oli])), (obd, .inl (cI, 64, .inl bd)), (opa, .inl (cI, 9664, .inl pa)), (opS, .inl (cI, 151, .inl pS)), (opR, .inl (cI, 151, .inl pR)), (opG, .inl (cI, 151, .inl pG)), (opP, .inl (cI, 151, .inl pP)), (opQ, .inl (cI, 151, .inl pQ)), (okp, .inl (cI, 256, .inl kp)), (okS, .inl (cI, 4, .inl kS)), (okR, .inl (cI, 4, .inl kR)), (okP, .inl (cI, 4, .inl kP)), (okQ, .inl (cI, 4, .inl kQ)), (oli, .inl (cI, 1320, .inl li))]) ⟨hx, hb, hml, hown, hts⟩ (ct_M_kindOf l dC dI cI cL cR (bd x2.toNatClampNeg) hy3002) mm_222 mm_223 mm_221 mm_211 hd_M_kindOf (by decide) qq_00 hP hD hK hS hA hT hN [] [0, 1, 2, 3, 4, 5, 6, 7, 8, 9, 10, 11, 12, 13] [0, 1, 2, 3, 4, 5, 6, 7, 8, 9, 10, 11, 12, 13] rfl rfl rfl (by decide) rfl hl.1 rfl (Nat.le_of_ble_eq_true rfl) dd_M_isCrowd_65 (fun H locs hP hD hS => ?_)
          refine W.eq (g2 := F0 m 68 ls [.int r3002]) rfl ?_
          refine lv_iconst (v := 1) hx hb dd_M_isCrowd_68 (by decide) ?_
          refine lv_icmp_eq (tgt := 92) hx hb dd_M_isCrowd_69 (by decide) (fun hc => ?_) (fun hc => ?_)
          · replace hf := qq_t hc hf
            exact hJ92 x2 _ _ _ (lv_sub hl [0, 2] rfl) hP hD hS hf
          · replace hf := qq_f hc hf
            refine lv_aload_n hx hb dd_M_isCrowd_72 rfl (lv_at hl 0 rfl) ?_
            refine va_get (D := (dC, dI)) (ci := 5) (v := .ref obd) (C := RR_M) (T := FF_M) (N := 20) hx hb hts uu_M hown hK hP 0 rfl rfl 2 (by decide) (hts _ mm_209) (fun _ h9 => h9) rfl dd_M_isCrowd_73 ?_
            refine lv_bipush (v := 56) hx hb dd_M_isCrowd_76 (by decide) ?_
            refine lv_iload_n hx hb dd_M_isCrowd_78 rfl (lv_at hl 2 rfl) ?_
            refine lv_iadd hx hb dd_M_isCrowd_79 ?_
            obtain ⟨hi3003, hf⟩ := qq_ckE hf
            refine va_iald (D := (dC, dI)) (f := bd) (n := 64) (cA := cI) hx hb hK hP 1 0 rfl rfl (qq_inE hi3003) dd_M_isCrowd_80 ?_
            obtain ⟨r3004, hy3004, hf⟩ := qq_bd hf
            refine qq_S (As := [.int (bd (56 + x2).toNatClampNeg)]) (rest := []) (wr := [(oM, .inr (5, [.int mth, .int mpl, .ref obd, .int msd, .int mrt, .int mps, .int mqt, .int mmd, .ref opa, .ref opS, .ref opR, .ref opG, .ref opP, .ref opQ, .ref okp, .ref okS, .ref okR, .ref okP, .ref okQ, .ref oli])), (obd, .inl (cI, 64, .inl bd)), (opa, .inl (cI, 9664, .inl pa)), (opS, .inl (cI, 151, .inl pS)), (opR, .inl (cI, 151, .inl pR)), (opG, .inl (cI, 151, .inl pG)), (opP, .inl (cI, 151, .inl pP)), (opQ, .inl (cI, 151, .inl pQ)), (okp, .inl (cI, 256, .inl kp)), (okS, .inl (cI, 4, .inl kS)), (okR, .inl (cI, 4, .inl kR)), (okP, .inl (cI, 4, .inl kP)), (okQ, .inl (cI, 4, .inl kQ)), (oli, .inl (cI, 1320, .inl li))]) (wf := [(oM, .inr (5, [.int mth, .int mpl, .ref obd, .int msd, .int mrt, .int mps, .int mqt, .int mmd, .ref opa, .ref opS, .ref opR, .ref opG, .ref opP, .ref opQ, .ref okp, .ref okS, .ref okR, .ref okP, .ref okQ, .ref oli])), (obd, .inl (cI, 64, .inl bd)), (opa, .inl (cI, 9664, .inl pa)), (opS, .inl (cI, 151, .inl pS)), (opR, .inl (cI, 151, .inl pR)), (opG, .inl (cI, 151, .inl pG)), (opP, .inl (cI, 151, .inl pP)), (opQ, .inl (cI, 151, .inl pQ)), (okp, .inl (cI, 256, .inl kp)), (okS, .inl (cI, 4, .inl kS)), (okR, .inl (cI, 4, .inl kR)), (okP, .inl (cI, 4, .inl kP)), (okQ, .inl (cI, 4, .inl kQ)), (oli, .inl (cI, 1320, .inl li))]) ⟨hx, hb, hml, hown, hts⟩ (ct_M_kindOf l dC dI cI cL cR (bd (56 + x2).toNatClampNeg) hy3004) mm_222 mm_223 mm_221 mm_211 hd_M_kindOf (by decide) qq_00 hP hD hK hS hA hT hN [] [0, 1, 2, 3, 4, 5, 6, 7, 8, 9, 10, 11, 12, 13] [0, 1, 2, 3, 4, 5, 6, 7, 8, 9, 10, 11, 12, 13] rfl rfl rfl (by decide) rfl hl.1 rfl (Nat.le_of_ble_eq_true rfl) dd_M_isCrowd_81 (fun H locs hP hD hS => ?_)
            refine W.eq (g2 := F0 m 84 ls [.int r3004]) rfl ?_
            refine lv_iconst (v := 1) hx hb dd_M_isCrowd_84 (by decide) ?_
            refine lv_icmp_eq (tgt := 92) hx hb dd_M_isCrowd_85 (by decide) (fun hc => ?_) (fun hc => ?_)
            · replace hf := qq_t hc hf
              exact hJ92 x2 _ _ _ (lv_sub hl [0, 2] rfl) hP hD hS hf
            · replace hf := qq_f hc hf
              refine lv_iconst (v := 1) hx hb dd_M_isCrowd_88 (by decide) ?_
              refine lv_goto (tgt := 93) hx hb dd_M_isCrowd_89 (by decide) ?_
              exact hJ93 x2 1 _ _ _ (lv_sub hl [0, 2] rfl) hP hD hS hf
  have hL4 : ∀ (n4 : Nat) (x1 : Int32) (x2 : Int32) (H : Heap) (locs : List Loc) (ls : Array Slot), lv_has ls 3 [(0, .ref oM), (1, .int x1), (2, .int x2)] → va_P (dC, dI) classes [(oM, .inr (5, [.int mth, .int mpl, .ref obd, .int msd, .int mrt, .int mps, .int mqt, .int mmd, .ref opa, .ref opS, .ref opR, .ref opG, .ref opP, .ref opQ, .ref okp, .ref okS, .ref okR, .ref okP, .ref okQ, .ref oli])), (obd, .inl (cI, 64, .inl bd)), (opa, .inl (cI, 9664, .inl pa)), (opS, .inl (cI, 151, .inl pS)), (opR, .inl (cI, 151, .inl pR)), (opG, .inl (cI, 151, .inl pG)), (opP, .inl (cI, 151, .inl pP)), (opQ, .inl (cI, 151, .inl pQ)), (okp, .inl (cI, 256, .inl kp)), (okS, .inl (cI, 4, .inl kS)), (okR, .inl (cI, 4, .inl kR)), (okP, .inl (cI, 4, .inl kP)), (okQ, .inl (cI, 4, .inl kQ)), (oli, .inl (cI, 1320, .inl li))] H → va_D A [(oM, .inr (5, [.int mth, .int mpl, .ref obd, .int msd, .int mrt, .int mps, .int mqt, .int mmd, .ref opa, .ref opS, .ref opR, .ref opG, .ref opP, .ref opQ, .ref okp, .ref okS, .ref okR, .ref okP, .ref okQ, .ref oli])), (obd, .inl (cI, 64, .inl bd)), (opa, .inl (cI, 9664, .inl pa)), (opS, .inl (cI, 151, .inl pS)), (opR, .inl (cI, 151, .inl pR)), (opG, .inl (cI, 151, .inl pG)), (opP, .inl (cI, 151, .inl pP)), (opQ, .inl (cI, 151, .inl pQ)), (okp, .inl (cI, 256, .inl kp)), (okS, .inl (cI, 4, .inl kS)), (okR, .inl (cI, 4, .inl kR)), (okP, .inl (cI, 4, .inl kP)), (okQ, .inl (cI, 4, .inl kQ)), (oli, .inl (cI, 1320, .inl li))] → va_S A s.heap H locs → lo_M_isCrowd_4 bd n4 x1 x2 = some rr → W p l e rm_M_isCrowd s m ([.ref oM] : List Value).toArray below meth c H locs 0 0 Q (F0 m 4 ls []) := by
    intro n4
    induction n4 with
    | zero => exact fun x1 x2 H locs ls hl hP hD hS hf => absurd hf (by rw [lo_M_isCrowd_4_z]; exact fun h => by cases h)
    | succ n4 ih4 =>
      have hJ40 : ∀ (x2 : Int32) (s0 : Int32) (H : Heap) (locs : List Loc) (ls : Array Slot), lv_has ls 3 [(0, .ref oM), (2, .int x2)] → va_P (dC, dI) classes [(oM, .inr (5, [.int mth, .int mpl, .ref obd, .int msd, .int mrt, .int mps, .int mqt, .int mmd, .ref opa, .ref opS, .ref opR, .ref opG, .ref opP, .ref opQ, .ref okp, .ref okS, .ref okR, .ref okP, .ref okQ, .ref oli])), (obd, .inl (cI, 64, .inl bd)), (opa, .inl (cI, 9664, .inl pa)), (opS, .inl (cI, 151, .inl pS)), (opR, .inl (cI, 151, .inl pR)), (opG, .inl (cI, 151, .inl pG)), (opP, .inl (cI, 151, .inl pP)), (opQ, .inl (cI, 151, .inl pQ)), (okp, .inl (cI, 256, .inl kp)), (okS, .inl (cI, 4, .inl kS)), (okR, .inl (cI, 4, .inl kR)), (okP, .inl (cI, 4, .inl kP)), (okQ, .inl (cI, 4, .inl kQ)), (oli, .inl (cI, 1320, .inl li))] H → va_D A [(oM, .inr (5, [.int mth, .int mpl, .ref obd, .int msd, .int mrt, .int mps, .int mqt, .int mmd, .ref opa, .ref opS, .ref opR, .ref opG, .ref opP, .ref opQ, .ref okp, .ref okS, .ref okR, .ref okP, .ref okQ, .ref oli])), (obd, .inl (cI, 64, .inl bd)), (opa, .inl (cI, 9664, .inl pa)), (opS, .inl (cI, 151, .inl pS)), (opR, .inl (cI, 151, .inl pR)), (opG, .inl (cI, 151, .inl pG)), (opP, .inl (cI, 151, .inl pP)), (opQ, .inl (cI, 151, .inl pQ)), (okp, .inl (cI, 256, .inl kp)), (okS, .inl (cI, 4, .inl kS)), (okR, .inl (cI, 4, .inl kR)), (okP, .inl (cI, 4, .inl kP)), (okQ, .inl (cI, 4, .inl kQ)), (oli, .inl (cI, 1320, .inl li))] → va_S A s.heap H locs → bk_M_isCrowd_40 bd (lo_M_isCrowd_4 bd n4) x2 s0 = some rr → W p l e rm_M_isCrowd s m ([.ref oM] : List Value).toArray below meth c H locs 0 0 Q (F0 m 40 ls [.int s0]) := by
        intro x2 s0 H locs ls hl hP hD hS hf
        rw [bk_M_isCrowd_40] at hf
        refine lv_istore_n (lv' := [(1, .int s0), (0, .ref oM), (2, .int x2)]) hx hb dd_M_isCrowd_40 rfl hl (by decide) rfl (fun ls hl => ?_)
        obtain ⟨v4001, ev4001⟩ : ∃ z, z = x2 + 1 := ⟨_, rfl⟩
        replace hf := qq_lt ev4001 hf
        refine lv_iinc (k := 2) (v := v4001) (lv' := [(2, .int v4001), (1, .int s0), (0, .ref oM)]) hx hb dd_M_isCrowd_41 hl rfl (by rw [ev4001]; exact congrArg _ (by decide)) (by decide) rfl (fun ls hl => ?_)
        refine lv_goto (tgt := 4) hx hb dd_M_isCrowd_44 (by decide) ?_
        exact ih4 s0 v4001 _ _ _ (lv_sub hl [2, 1, 0] rfl) hP hD hS hf
      have hJ39 : ∀ (x2 : Int32) (H : Heap) (locs : List Loc) (ls : Array Slot), lv_has ls 3 [(0, .ref oM), (2, .int x2)] → va_P (dC, dI) classes [(oM, .inr (5, [.int mth, .int mpl, .ref obd, .int msd, .int mrt, .int mps, .int mqt, .int mmd, .ref opa, .ref opS, .ref opR, .ref opG, .ref opP, .ref opQ, .ref okp, .ref okS, .ref okR, .ref okP, .ref okQ, .ref oli])), (obd, .inl (cI, 64, .inl bd)), (opa, .inl (cI, 9664, .inl pa)), (opS, .inl (cI, 151, .inl pS)), (opR, .inl (cI, 151, .inl pR)), (opG, .inl (cI, 151, .inl pG)), (opP, .inl (cI, 151, .inl pP)), (opQ, .inl (cI, 151, .inl pQ)), (okp, .inl (cI, 256, .inl kp)), (okS, .inl (cI, 4, .inl kS)), (okR, .inl (cI, 4, .inl kR)), (okP, .inl (cI, 4, .inl kP)), (okQ, .inl (cI, 4, .inl kQ)), (oli, .inl (cI, 1320, .inl li))] H → va_D A [(oM, .inr (5, [.int mth, .int mpl, .ref obd, .int msd, .int mrt, .int mps, .int mqt, .int mmd, .ref opa, .ref opS, .ref opR, .ref opG, .ref opP, .ref opQ, .ref okp, .ref okS, .ref okR, .ref okP, .ref okQ, .ref oli])), (obd, .inl (cI, 64, .inl bd)), (opa, .inl (cI, 9664, .inl pa)), (opS, .inl (cI, 151, .inl pS)), (opR, .inl (cI, 151, .inl pR)), (opG, .inl (cI, 151, .inl pG)), (opP, .inl (cI, 151, .inl pP)), (opQ, .inl (cI, 151, .inl pQ)), (okp, .inl (cI, 256, .inl kp)), (okS, .inl (cI, 4, .inl kS)), (okR, .inl (cI, 4, .inl kR)), (okP, .inl (cI, 4, .inl kP)), (okQ, .inl (cI, 4, .inl kQ)), (oli, .inl (cI, 1320, .inl li))] → va_S A s.heap H locs → bk_M_isCrowd_39 bd (lo_M_isCrowd_4 bd n4) x2 = some rr → W p l e rm_M_isCrowd s m ([.ref oM] : List Value).toArray below meth c H locs 0 0 Q (F0 m 39 ls []) := by
        intro x2 H locs ls hl hP hD hS hf
        rw [bk_M_isCrowd_39] at hf
        refine lv_iconst (v := 0) hx hb dd_M_isCrowd_39 (by decide) ?_
        exact hJ40 x2 0 _ _ _ (lv_sub hl [0, 1] rfl) hP hD hS hf
      intro x1 x2 H locs ls hl hP hD hS hf
      rw [lo_M_isCrowd_4_s] at hf
      refine lv_iload_n hx hb dd_M_isCrowd_4 rfl (lv_at hl 2 rfl) ?_
      refine lv_iconst (v := 2) hx hb dd_M_isCrowd_5 (by decide) ?_
      refine lv_icmp_ge (tgt := 47) hx hb dd_M_isCrowd_6 (by decide) (fun hc => ?_) (fun hc => ?_)
      · replace hf := qq_t hc hf
        refine lv_iconst (v := 0) hx hb dd_M_isCrowd_47 (by decide) ?_
        refine lv_istore_n (lv' := [(2, .int 0), (0, .ref oM), (1, .int x1)]) hx hb dd_M_isCrowd_48 rfl hl (by decide) rfl (fun ls hl => ?_)
        exact hL49 qq_FU x1 0 _ _ _ (lv_sub hl [1, 2, 0] rfl) hP hD hS hf
      · replace hf := qq_f hc hf
        refine lv_iload_n hx hb dd_M_isCrowd_9 rfl (lv_at hl 1 rfl) ?_
        refine lv_if_eq (tgt := 39) hx hb dd_M_isCrowd_10 (by decide) (fun hc => ?_) (fun hc => ?_)
        · replace hf := qq_t hc hf
          exact hJ39 x2 _ _ _ (lv_sub hl [0, 2] rfl) hP hD hS hf
        · replace hf := qq_f hc hf
          refine lv_aload_n hx hb dd_M_isCrowd_13 rfl (lv_at hl 0 rfl) ?_
          refine lv_iload_n hx hb dd_M_isCrowd_14 rfl (lv_at hl 2 rfl) ?_
          refine lv_bipush (v := 6) hx hb dd_M_isCrowd_15 (by decide) ?_
          obtain ⟨r6001, hy6001, hf⟩ := qq_bd hf
          refine qq_V (As := [.int x2, .int 6]) (rest := []) (wr := []) (wf := [(oM, .inr (5, [.int mth, .int mpl, .ref obd, .int msd, .int mrt, .int mps, .int mqt, .int mmd, .ref opa, .ref opS, .ref opR, .ref opG, .ref opP, .ref opQ, .ref okp, .ref okS, .ref okR, .ref okP, .ref okQ, .ref oli])), (obd, .inl (cI, 64, .inl bd)), (opa, .inl (cI, 9664, .inl pa)), (opS, .inl (cI, 151, .inl pS)), (opR, .inl (cI, 151, .inl pR)), (opG, .inl (cI, 151, .inl pG)), (opP, .inl (cI, 151, .inl pP)), (opQ, .inl (cI, 151, .inl pQ)), (okp, .inl (cI, 256, .inl kp)), (okS, .inl (cI, 4, .inl kS)), (okR, .inl (cI, 4, .inl kR)), (okP, .inl (cI, 4, .inl kP)), (okQ, .inl (cI, 4, .inl kQ)), (oli, .inl (cI, 1320, .inl li))]) ⟨hx, hb, hml, hown, hts⟩ (ct_M_many l dC dI cI cL cR oM obd opa opS opR opG opP opQ okp okS okR okP okQ oli mth mpl msd mrt mps mqt mmd bd pa pS pR pG pP pQ kp kS kR kP kQ li x2 6 hy6001) mm_312 mm_313 mm_314 mm_311 mm_211 hd_M_many (by decide) qq_00 hP hD hK hS hA hT hN (q0 := 0) (ci := 5) rfl rfl [0, 1, 2, 3, 4, 5, 6, 7, 8, 9, 10, 11, 12, 13] [] [0, 1, 2, 3, 4, 5, 6, 7, 8, 9, 10, 11, 12, 13] rfl rfl rfl (by decide) rfl hl.1 rfl (Nat.le_of_ble_eq_true rfl) dd_M_isCrowd_17 (fun H locs hP hD hS => ?_)
          refine W.eq (g2 := F0 m 20 ls [.int r6001]) rfl ?_
          refine lv_iconst (v := 1) hx hb dd_M_isCrowd_20 (by decide) ?_
          refine lv_icmp_ne (tgt := 39) hx hb dd_M_isCrowd_21 (by decide) (fun hc => ?_) (fun hc => ?_)
          · replace hf := qq_f hc hf
            exact hJ39 x2 _ _ _ (lv_sub hl [0, 2] rfl) hP hD hS hf
          · replace hf := qq_t hc hf
            refine lv_aload_n hx hb dd_M_isCrowd_24 rfl (lv_at hl 0 rfl) ?_
            refine lv_iload_n hx hb dd_M_isCrowd_25 rfl (lv_at hl 2 rfl) ?_
            refine lv_iconst (v := 0) hx hb dd_M_isCrowd_26 (by decide) ?_
            obtain ⟨r6002, hy6002, hf⟩ := qq_bd hf
            refine qq_V (As := [.int x2, .int 0]) (rest := []) (wr := []) (wf := [(oM, .inr (5, [.int mth, .int mpl, .ref obd, .int msd, .int mrt, .int mps, .int mqt, .int mmd, .ref opa, .ref opS, .ref opR, .ref opG, .ref opP, .ref opQ, .ref okp, .ref okS, .ref okR, .ref okP, .ref okQ, .ref oli])), (obd, .inl (cI, 64, .inl bd)), (opa, .inl (cI, 9664, .inl pa)), (opS, .inl (cI, 151, .inl pS)), (opR, .inl (cI, 151, .inl pR)), (opG, .inl (cI, 151, .inl pG)), (opP, .inl (cI, 151, .inl pP)), (opQ, .inl (cI, 151, .inl pQ)), (okp, .inl (cI, 256, .inl kp)), (okS, .inl (cI, 4, .inl kS)), (okR, .inl (cI, 4, .inl kR)), (okP, .inl (cI, 4, .inl kP)), (okQ, .inl (cI, 4, .inl kQ)), (oli, .inl (cI, 1320, .inl li))]) ⟨hx, hb, hml, hown, hts⟩ (ct_M_many l dC dI cI cL cR oM obd opa opS opR opG opP opQ okp okS okR okP okQ oli mth mpl msd mrt mps mqt mmd bd pa pS pR pG pP pQ kp kS kR kP kQ li x2 0 hy6002) mm_312 mm_313 mm_314 mm_311 mm_211 hd_M_many (by decide) qq_00 hP hD hK hS hA hT hN (q0 := 0) (ci := 5) rfl rfl [0, 1, 2, 3, 4, 5, 6, 7, 8, 9, 10, 11, 12, 13] [] [0, 1, 2, 3, 4, 5, 6, 7, 8, 9, 10, 11, 12, 13] rfl rfl rfl (by decide) rfl hl.1 rfl (Nat.le_of_ble_eq_true rfl) dd_M_isCrowd_27 (fun H locs hP hD hS => ?_)
            refine W.eq (g2 := F0 m 30 ls [.int r6002]) rfl ?_
            refine lv_bipush (v := 16) hx hb dd_M_isCrowd_30 (by decide) ?_
            refine lv_icmp_gt (tgt := 39) hx hb dd_M_isCrowd_32 (by decide) (fun hc => ?_) (fun hc => ?_)
            · replace hf := qq_t hc hf
              exact hJ39 x2 _ _ _ (lv_sub hl [0, 2] rfl) hP hD hS hf
            · replace hf := qq_f hc hf
              refine lv_iconst (v := 1) hx hb dd_M_isCrowd_35 (by decide) ?_
              refine lv_goto (tgt := 40) hx hb dd_M_isCrowd_36 (by decide) ?_
              exact hJ40 x2 1 _ _ _ (lv_sub hl [0, 2] rfl) hP hD hS hf
  rw [fn_M_isCrowd] at hf
  refine lv_iconst (v := 1) hx hb dd_M_isCrowd_0 (by decide) ?_
  refine lv_istore_n (lv' := [(1, .int 1), (0, .ref oM)]) hx hb dd_M_isCrowd_1 rfl hl (by decide) rfl (fun ls hl => ?_)
  refine lv_iconst (v := 0) hx hb dd_M_isCrowd_2 (by decide) ?_
  refine lv_istore_n (lv' := [(2, .int 0), (1, .int 1), (0, .ref oM)]) hx hb dd_M_isCrowd_3 rfl hl (by decide) rfl (fun ls hl => ?_)
  exact hL4 qq_FU 1 0 _ _ _ (lv_sub hl [2, 1, 0] rfl) hP hD hS hf
theorem dd_M_isPassed_0 : decode bb_M_isPassed 0 = .ok (.iload_n 2, 1) := by decide +kernel
theorem dd_M_isPassed_1 : decode bb_M_isPassed 1 = .ok (.ifCond .ge 5, 3) := by decide +kernel
theorem dd_M_isPassed_4 : decode bb_M_isPassed 4 = .ok (.iconst 1, 1) := by decide +kernel
theorem dd_M_isPassed_5 : decode bb_M_isPassed 5 = .ok (.ireturn, 1) := by decide +kernel
theorem dd_M_isPassed_6 : decode bb_M_isPassed 6 = .ok (.bipush 8, 2) := by decide +kernel
theorem dd_M_isPassed_8 : decode bb_M_isPassed 8 = .ok (.iconst 4, 1) := by decide +kernel
theorem dd_M_isPassed_9 : decode bb_M_isPassed 9 = .ok (.iload_n 1, 1) := by decide +kernel
theorem dd_M_isPassed_10 : decode bb_M_isPassed 10 = .ok (.isub, 1) := by decide +kernel
theorem dd_M_isPassed_11 : decode bb_M_isPassed 11 = .ok (.imul, 1) := by decide +kernel
theorem dd_M_isPassed_12 : decode bb_M_isPassed 12 = .ok (.iload_n 2, 1) := by decide +kernel
theorem dd_M_isPassed_13 : decode bb_M_isPassed 13 = .ok (.iadd, 1) := by decide +kernel
theorem dd_M_isPassed_14 : decode bb_M_isPassed 14 = .ok (.istore_n 3, 1) := by decide +kernel
theorem dd_M_isPassed_15 : decode bb_M_isPassed 15 = .ok (.bipush 8, 2) := by decide +kernel
theorem dd_M_isPassed_17 : decode bb_M_isPassed 17 = .ok (.iload_n 1, 1) := by decide +kernel
theorem dd_M_isPassed_18 : decode bb_M_isPassed 18 = .ok (.invokestatic 76, 3) := by decide +kernel
theorem dd_M_isPassed_21 : decode bb_M_isPassed 21 = .ok (.imul, 1) := by decide +kernel
theorem dd_M_isPassed_22 : decode bb_M_isPassed 22 = .ok (.istore 4, 2) := by decide +kernel
theorem dd_M_isPassed_24 : decode bb_M_isPassed 24 = .ok (.aload_n 0, 1) := by decide +kernel
theorem dd_M_isPassed_25 : decode bb_M_isPassed 25 = .ok (.getfield 7, 3) := by decide +kernel
theorem dd_M_isPassed_28 : decode bb_M_isPassed 28 = .ok (.iload_n 3, 1) := by decide +kernel
theorem dd_M_isPassed_29 : decode bb_M_isPassed 29 = .ok (.iaload, 1) := by decide +kernel
theorem dd_M_isPassed_30 : decode bb_M_isPassed 30 = .ok (.iconst 1, 1) := by decide +kernel
theorem dd_M_isPassed_31 : decode bb_M_isPassed 31 = .ok (.bipush 6, 2) := by decide +kernel
theorem dd_M_isPassed_33 : decode bb_M_isPassed 33 = .ok (.iconst 1, 1) := by decide +kernel
theorem dd_M_isPassed_34 : decode bb_M_isPassed 34 = .ok (.iload_n 1, 1) := by decide +kernel
theorem dd_M_isPassed_35 : decode bb_M_isPassed 35 = .ok (.isub, 1) := by decide +kernel
theorem dd_M_isPassed_36 : decode bb_M_isPassed 36 = .ok (.imul, 1) := by decide +kernel
theorem dd_M_isPassed_37 : decode bb_M_isPassed 37 = .ok (.iadd, 1) := by decide +kernel
theorem dd_M_isPassed_38 : decode bb_M_isPassed 38 = .ok (.if_icmp .ne 33, 3) := by decide +kernel
theorem dd_M_isPassed_41 : decode bb_M_isPassed 41 = .ok (.aload_n 0, 1) := by decide +kernel
theorem dd_M_isPassed_42 : decode bb_M_isPassed 42 = .ok (.getfield 7, 3) := by decide +kernel
theorem dd_M_isPassed_45 : decode bb_M_isPassed 45 = .ok (.iload_n 3, 1) := by decide +kernel
theorem dd_M_isPassed_46 : decode bb_M_isPassed 46 = .ok (.iload 4, 2) := by decide +kernel
theorem dd_M_isPassed_48 : decode bb_M_isPassed 48 = .ok (.iadd, 1) := by decide +kernel
theorem dd_M_isPassed_49 : decode bb_M_isPassed 49 = .ok (.iaload, 1) := by decide +kernel
theorem dd_M_isPassed_50 : decode bb_M_isPassed 50 = .ok (.ifCond .ne 21, 3) := by decide +kernel
theorem dd_M_isPassed_53 : decode bb_M_isPassed 53 = .ok (.aload_n 0, 1) := by decide +kernel
theorem dd_M_isPassed_54 : decode bb_M_isPassed 54 = .ok (.getfield 7, 3) := by decide +kernel
theorem dd_M_isPassed_57 : decode bb_M_isPassed 57 = .ok (.iload_n 3, 1) := by decide +kernel
theorem dd_M_isPassed_58 : decode bb_M_isPassed 58 = .ok (.iconst 2, 1) := by decide +kernel
theorem dd_M_isPassed_59 : decode bb_M_isPassed 59 = .ok (.iload 4, 2) := by decide +kernel
theorem dd_M_isPassed_61 : decode bb_M_isPassed 61 = .ok (.imul, 1) := by decide +kernel
theorem dd_M_isPassed_62 : decode bb_M_isPassed 62 = .ok (.iadd, 1) := by decide +kernel
theorem dd_M_isPassed_63 : decode bb_M_isPassed 63 = .ok (.iaload, 1) := by decide +kernel
theorem dd_M_isPassed_64 : decode bb_M_isPassed 64 = .ok (.ifCond .ne 7, 3) := by decide +kernel
theorem dd_M_isPassed_67 : decode bb_M_isPassed 67 = .ok (.iconst 1, 1) := by decide +kernel
theorem dd_M_isPassed_68 : decode bb_M_isPassed 68 = .ok (.goto 4, 3) := by decide +kernel
theorem dd_M_isPassed_71 : decode bb_M_isPassed 71 = .ok (.iconst 0, 1) := by decide +kernel
theorem dd_M_isPassed_72 : decode bb_M_isPassed 72 = .ok (.ireturn, 1) := by decide +kernel
abbrev ty_M_isPassed : Type := Int32
noncomputable def bk_M_isPassed_72 (bd : Nat → Int32) (a1 : Int32) (a2 : Int32) (s0 : Int32) : Option ty_M_isPassed := qq_ck (qq_b s0) <| some s0
noncomputable def bk_M_isPassed_71 (bd : Nat → Int32) (a1 : Int32) (a2 : Int32) : Option ty_M_isPassed := bk_M_isPassed_72 bd a1 a2 0
noncomputable def fn_M_isPassed (bd : Nat → Int32) (a1 : Int32) (a2 : Int32) : Option ty_M_isPassed := if 0 ≤ a2 then (qq_let ((8 * (4 - a1)) + a2) fun v1 => (fn_M_ahead a1).bind fun r2 => qq_let (8 * r2) fun v3 => qq_ck (qq_in v1 64) <| if (bd v1.toNatClampNeg) = (1 + (6 * (1 - a1))) then (qq_ck (qq_in (v1 + v3) 64) <| if (bd (v1 + v3).toNatClampNeg) = 0 then (qq_ck (qq_in (v1 + (2 * v3)) 64) <| if (bd (v1 + (2 * v3)).toNatClampNeg) = 0 then (bk_M_isPassed_72 bd a1 a2 1) else (bk_M_isPassed_71 bd a1 a2)) else (bk_M_isPassed_71 bd a1 a2)) else (bk_M_isPassed_71 bd a1 a2)) else (some (1 : Int32))
abbrev rm_M_isPassed : Room := { frames := 1, cells := 0, slots := 0, locals := 20 }
set_option maxHeartbeats 4000000 in
set_option maxRecDepth 100000 in
theorem ct_M_isPassed (l : Launch) (dC : Nat → ClassId) (dI : Nat → Nat → Nat) (cI cL cR : ClassId) (oM obd opa opS opR opG opP opQ okp okS okR okP okQ oli : Nat) (mth : Int32) (mpl : Int32) (msd : Int32) (mrt : Int32) (mps : Int32) (mqt : Int32) (mmd : Int32) (bd : Nat → Int32) (pa : Nat → Int32) (pS : Nat → Int32) (pR : Nat → Int32) (pG : Nat → Int32) (pP : Nat → Int32) (pQ : Nat → Int32) (kp : Nat → Int32) (kS : Nat → Int32) (kR : Nat → Int32) (kP : Nat → Int32) (kQ : Nat → Int32) (li : Nat → Int32) (a1 : Int32) (a2 : Int32) {rr : Int32} (hf : fn_M_isPassed bd a1 a2 = some rr) : qq_det l yy_M_isPassed (ww_of yy_M_isPassed bb_M_isPassed 5 (some .boolean)) rm_M_isPassed (dC, dI) (qq_ty cI cL cR) [.ref oM, .int a1, .int a2] [(oM, .inr (5, [.int mth, .int mpl, .ref obd, .int msd, .int mrt, .int mps, .int mqt, .int mmd, .ref opa, .ref opS, .ref opR, .ref opG, .ref opP, .ref opQ, .ref okp, .ref okS, .ref okR, .ref okP, .ref okQ, .ref oli])), (obd, .inl (cI, 64, .inl bd)), (opa, .inl (cI, 9664, .inl pa)), (opS, .inl (cI, 151, .inl pS)), (opR, .inl (cI, 151, .inl pR)), (opG, .inl (cI, 151, .inl pG)), (opP, .inl (cI, 151, .inl pP)), (opQ, .inl (cI, 151, .inl pQ)), (okp, .inl (cI, 256, .inl kp)), (okS, .inl (cI, 4, .inl kS)), (okR, .inl (cI, 4, .inl kR)), (okP, .inl (cI, 4, .inl kP)), (okQ, .inl (cI, 4, .inl kQ)), (oli, .inl (cI, 1320, .inl li))] (some (.int rr)) [(oM, .inr (5, [.int mth, .int mpl, .ref obd, .int msd, .int mrt, .int mps, .int mqt, .int mmd, .ref opa, .ref opS, .ref opR, .ref opG, .ref opP, .ref opQ, .ref okp, .ref okS, .ref okR, .ref okP, .ref okQ, .ref oli])), (obd, .inl (cI, 64, .inl bd)), (opa, .inl (cI, 9664, .inl pa)), (opS, .inl (cI, 151, .inl pS)), (opR, .inl (cI, 151, .inl pR)), (opG, .inl (cI, 151, .inl pG)), (opP, .inl (cI, 151, .inl pP)), (opQ, .inl (cI, 151, .inl pQ)), (okp, .inl (cI, 256, .inl kp)), (okS, .inl (cI, 4, .inl kS)), (okR, .inl (cI, 4, .inl kR)), (okP, .inl (cI, 4, .inl kP)), (okQ, .inl (cI, 4, .inl kQ)), (oli, .inl (cI, 1320, .inl li))] := by
  refine qq_of (own := RR_M) (by decide) rfl (Nat.le_of_ble_eq_true rfl) ?_
  intro p e s m below meth c A Q ls hx hb hml hr hlocks hown hts hK hA hT hN hP hD hS hl hQ
  have hl : lv_has ls 5 [(0, .ref oM), (1, .int a1), (2, .int a2)] := hl
  have hJ72 : ∀ (s0 : Int32) (H : Heap) (locs : List Loc) (ls : Array Slot), lv_has ls 5 [] → va_P (dC, dI) classes [(oM, .inr (5, [.int mth, .int mpl, .ref obd, .int msd, .int mrt, .int mps, .int mqt, .int mmd, .ref opa, .ref opS, .ref opR, .ref opG, .ref opP, .ref opQ, .ref okp, .ref okS, .ref okR, .ref okP, .ref okQ, .ref oli])), (obd, .inl (cI, 64, .inl bd)), (opa, .inl (cI, 9664, .inl pa)), (opS, .inl (cI, 151, .inl pS)), (opR, .inl (cI, 151, .inl pR)), (opG, .inl (cI, 151, .inl pG)), (opP, .inl (cI, 151, .inl pP)), (opQ, .inl (cI, 151, .inl pQ)), (okp, .inl (cI, 256, .inl kp)), (okS, .inl (cI, 4, .inl kS)), (okR, .inl (cI, 4, .inl kR)), (okP, .inl (cI, 4, .inl kP)), (okQ, .inl (cI, 4, .inl kQ)), (oli, .inl (cI, 1320, .inl li))] H → va_D A [(oM, .inr (5, [.int mth, .int mpl, .ref obd, .int msd, .int mrt, .int mps, .int mqt, .int mmd, .ref opa, .ref opS, .ref opR, .ref opG, .ref opP, .ref opQ, .ref okp, .ref okS, .ref okR, .ref okP, .ref okQ, .ref oli])), (obd, .inl (cI, 64, .inl bd)), (opa, .inl (cI, 9664, .inl pa)), (opS, .inl (cI, 151, .inl pS)), (opR, .inl (cI, 151, .inl pR)), (opG, .inl (cI, 151, .inl pG)), (opP, .inl (cI, 151, .inl pP)), (opQ, .inl (cI, 151, .inl pQ)), (okp, .inl (cI, 256, .inl kp)), (okS, .inl (cI, 4, .inl kS)), (okR, .inl (cI, 4, .inl kR)), (okP, .inl (cI, 4, .inl kP)), (okQ, .inl (cI, 4, .inl kQ)), (oli, .inl (cI, 1320, .inl li))] → va_S A s.heap H locs → bk_M_isPassed_72 bd a1 a2 s0 = some rr → W p l e rm_M_isPassed s m ([.ref oM, .int a1, .int a2] : List Value).toArray below meth c H locs 0 0 Q (F0 m 72 ls [.int s0]) := by
    intro s0 H locs ls hl hP hD hS hf
    rw [bk_M_isPassed_72] at hf
    obtain ⟨hzb, hf⟩ := qq_ckE hf
    cases hf
    exact qq_zret hx hb hr (qq_bE hzb) hlocks hQ hP hD hK hS dd_M_isPassed_72
  have hJ71 : ∀  (H : Heap) (locs : List Loc) (ls : Array Slot), lv_has ls 5 [] → va_P (dC, dI) classes [(oM, .inr (5, [.int mth, .int mpl, .ref obd, .int msd, .int mrt, .int mps, .int mqt, .int mmd, .ref opa, .ref opS, .ref opR, .ref opG, .ref opP, .ref opQ, .ref okp, .ref okS, .ref okR, .ref okP, .ref okQ, .ref oli])), (obd, .inl (cI, 64, .inl bd)), (opa, .inl (cI, 9664, .inl pa)), (opS, .inl (cI, 151, .inl pS)), (opR, .inl (cI, 151, .inl pR)), (opG, .inl (cI, 151, .inl pG)), (opP, .inl (cI, 151, .inl pP)), (opQ, .inl (cI, 151, .inl pQ)), (okp, .inl (cI, 256, .inl kp)), (okS, .inl (cI, 4, .inl kS)), (okR, .inl (cI, 4, .inl kR)), (okP, .inl (cI, 4, .inl kP)), (okQ, .inl (cI, 4, .inl kQ)), (oli, .inl (cI, 1320, .inl li))] H → va_D A [(oM, .inr (5, [.int mth, .int mpl, .ref obd, .int msd, .int mrt, .int mps, .int mqt, .int mmd, .ref opa, .ref opS, .ref opR, .ref opG, .ref opP, .ref opQ, .ref okp, .ref okS, .ref okR, .ref okP, .ref okQ, .ref oli])), (obd, .inl (cI, 64, .inl bd)), (opa, .inl (cI, 9664, .inl pa)), (opS, .inl (cI, 151, .inl pS)), (opR, .inl (cI, 151, .inl pR)), (opG, .inl (cI, 151, .inl pG)), (opP, .inl (cI, 151, .inl pP)), (opQ, .inl (cI, 151, .inl pQ)), (okp, .inl (cI, 256, .inl kp)), (okS, .inl (cI, 4, .inl kS)), (okR, .inl (cI, 4, .inl kR)), (okP, .inl (cI, 4, .inl kP)), (okQ, .inl (cI, 4, .inl kQ)), (oli, .inl (cI, 1320, .inl li))] → va_S A s.heap H locs → bk_M_isPassed_71 bd a1 a2 = some rr → W p l e rm_M_isPassed s m ([.ref oM, .int a1, .int a2] : List Value).toArray below meth c H locs 0 0 Q (F0 m 71 ls []) := by
    intro  H locs ls hl hP hD hS hf
    rw [bk_M_isPassed_71] at hf
    refine lv_iconst (v := 0) hx hb dd_M_isPassed_71 (by decide) ?_
    exact hJ72 0 _ _ _ (lv_sub hl [] rfl) hP hD hS hf
  rw [fn_M_isPassed] at hf
  refine lv_iload_n hx hb dd_M_isPassed_0 rfl (lv_at hl 2 rfl) ?_
  refine lv_if_ge (tgt := 6) hx hb dd_M_isPassed_1 (by decide) (fun hc => ?_) (fun hc => ?_)
  · replace hf := qq_t hc hf
    refine lv_bipush (v := 8) hx hb dd_M_isPassed_6 (by decide) ?_
    refine lv_iconst (v := 4) hx hb dd_M_isPassed_8 (by decide) ?_
    refine lv_iload_n hx hb dd_M_isPassed_9 rfl (lv_at hl 1 rfl) ?_
    refine lv_isub hx hb dd_M_isPassed_10 ?_
    refine lv_imul hx hb dd_M_isPassed_11 ?_
    refine lv_iload_n hx hb dd_M_isPassed_12 rfl (lv_at hl 2 rfl) ?_
    refine lv_iadd hx hb dd_M_isPassed_13 ?_
    refine lv_topi (fun v1 ev1 => ?_)
    replace hf := qq_lt ev1 hf
    refine lv_istore_n (lv' := [(3, .int v1), (0, .ref oM), (1, .int a1), (2, .int a2)]) hx hb dd_M_isPassed_14 rfl hl (by decide) rfl (fun ls hl => ?_)
    refine lv_bipush (v := 8) hx hb dd_M_isPassed_15 (by decide) ?_
    refine lv_iload_n hx hb dd_M_isPassed_17 rfl (lv_at hl 2 rfl) ?_
    obtain ⟨r2, hy2, hf⟩ := qq_bd hf
    refine qq_S (As := [.int a1]) (rest := [.int 8]) (wr := [(oM, .inr (5, [.int mth, .int mpl, .ref obd, .int msd, .int mrt, .int mps, .int mqt, .int mmd, .ref opa, .ref opS, .ref opR, .ref opG, .ref opP, .ref opQ, .ref okp, .ref okS, .ref okR, .ref okP, .ref okQ, .ref oli])), (obd, .inl (cI, 64, .inl bd)), (opa, .inl (cI, 9664, .inl pa)), (opS, .inl (cI, 151, .inl pS)), (opR, .inl (cI, 151, .inl pR)), (opG, .inl (cI, 151, .inl pG)), (opP, .inl (cI, 151, .inl pP)), (opQ, .inl (cI, 151, .inl pQ)), (okp, .inl (cI, 256, .inl kp)), (okS, .inl (cI, 4, .inl kS)), (okR, .inl (cI, 4, .inl kR)), (okP, .inl (cI, 4, .inl kP)), (okQ, .inl (cI, 4, .inl kQ)), (oli, .inl (cI, 1320, .inl li))]) (wf := [(oM, .inr (5, [.int mth, .int mpl, .ref obd, .int msd, .int mrt, .int mps, .int mqt, .int mmd, .ref opa, .ref opS, .ref opR, .ref opG, .ref opP, .ref opQ, .ref okp, .ref okS, .ref okR, .ref okP, .ref okQ, .ref oli])), (obd, .inl (cI, 64, .inl bd)), (opa, .inl (cI, 9664, .inl pa)), (opS, .inl (cI, 151, .inl pS)), (opR, .inl (cI, 151, .inl pR)), (opG, .inl (cI, 151, .inl pG)), (opP, .inl (cI, 151, .inl pP)), (opQ, .inl (cI, 151, .inl pQ)), (okp, .inl (cI, 256, .inl kp)), (okS, .inl (cI, 4, .inl kS)), (okR, .inl (cI, 4, .inl kR)), (okP, .inl (cI, 4, .inl kP)), (okQ, .inl (cI, 4, .inl kQ)), (oli, .inl (cI, 1320, .inl li))]) ⟨hx, hb, hml, hown, hts⟩ (ct_M_ahead l dC dI cI cL cR a1 hy2) mm_219 mm_220 mm_218 mm_211 hd_M_ahead (by decide) qq_00 hP hD hK hS hA hT hN [] [0, 1, 2, 3, 4, 5, 6, 7, 8, 9, 10, 11, 12, 13] [0, 1, 2, 3, 4, 5, 6, 7, 8, 9, 10, 11, 12, 13] rfl rfl rfl (by decide) rfl hl.1 rfl (Nat.le_of_ble_eq_true rfl) dd_M_isPassed_18 (fun H locs hP hD hS => ?_)
    refine W.eq (g2 := F0 m 21 ls [.int r2, .int 8]) rfl ?_
    refine lv_imul hx hb dd_M_isPassed_21 ?_
    refine lv_topi (fun v3 ev3 => ?_)
    replace hf := qq_lt ev3 hf
    refine lv_istore (lv' := [(4, .int v3), (3, .int v1), (0, .ref oM), (1, .int a1), (2, .int a2)]) hx hb dd_M_isPassed_22 hl (by decide) rfl (fun ls hl => ?_)
    refine lv_aload_n hx hb dd_M_isPassed_24 rfl (lv_at hl 2 rfl) ?_
    refine va_get (D := (dC, dI)) (ci := 5) (v := .ref obd) (C := RR_M) (T := FF_M) (N := 20) hx hb hts uu_M hown hK hP 0 rfl rfl 2 (by decide) (hts _ mm_209) (fun _ h9 => h9) rfl dd_M_isPassed_25 ?_
    refine lv_iload_n hx hb dd_M_isPassed_28 rfl (lv_at hl 1 rfl) ?_
    obtain ⟨hi4, hf⟩ := qq_ckE hf
    refine va_iald (D := (dC, dI)) (f := bd) (n := 64) (cA := cI) hx hb hK hP 1 0 rfl rfl (qq_inE hi4) dd_M_isPassed_29 ?_
    refine lv_iconst (v := 1) hx hb dd_M_isPassed_30 (by decide) ?_
    refine lv_bipush (v := 6) hx hb dd_M_isPassed_31 (by decide) ?_
    refine lv_iconst (v := 1) hx hb dd_M_isPassed_33 (by decide) ?_
    refine lv_iload_n hx hb dd_M_isPassed_34 rfl (lv_at hl 3 rfl) ?_
    refine lv_isub hx hb dd_M_isPassed_35 ?_
    refine lv_imul hx hb dd_M_isPassed_36 ?_
    refine lv_iadd hx hb dd_M_isPassed_37 ?_
    refine lv_icmp_ne (tgt := 71) hx hb dd_M_isPassed_38 (by decide) (fun hc => ?_) (fun hc => ?_)
    · replace hf := qq_f hc hf
      exact hJ71  _ _ _ (lv_sub hl [] rfl) hP hD hS hf
    · replace hf := qq_t hc hf
      refine lv_aload_n hx hb dd_M_isPassed_41 rfl (lv_at hl 2 rfl) ?_
      refine va_get (D := (dC, dI)) (ci := 5) (v := .ref obd) (C := RR_M) (T := FF_M) (N := 20) hx hb hts uu_M hown hK hP 0 rfl rfl 2 (by decide) (hts _ mm_209) (fun _ h9 => h9) rfl dd_M_isPassed_42 ?_
      refine lv_iload_n hx hb dd_M_isPassed_45 rfl (lv_at hl 1 rfl) ?_
      refine lv_iload hx hb dd_M_isPassed_46 (lv_at hl 0 rfl) ?_
      refine lv_iadd hx hb dd_M_isPassed_48 ?_
      obtain ⟨hi5, hf⟩ := qq_ckE hf
      refine va_iald (D := (dC, dI)) (f := bd) (n := 64) (cA := cI) hx hb hK hP 1 0 rfl rfl (qq_inE hi5) dd_M_isPassed_49 ?_
      refine lv_if_ne (tgt := 71) hx hb dd_M_isPassed_50 (by decide) (fun hc => ?_) (fun hc => ?_)
      · replace hf := qq_f hc hf
        exact hJ71  _ _ _ (lv_sub hl [] rfl) hP hD hS hf
      · replace hf := qq_t hc hf
        refine lv_aload_n hx hb dd_M_isPassed_53 rfl (lv_at hl 2 rfl) ?_
        refine va_get (D := (dC, dI)) (ci := 5) (v := .ref obd) (C := RR_M) (T := FF_M) (N := 20) hx hb hts uu_M hown hK hP 0 rfl rfl 2 (by decide) (hts _ mm_209) (fun _ h9 => h9) rfl dd_M_isPassed_54 ?_
        refine lv_iload_n hx hb dd_M_isPassed_57 rfl (lv_at hl 1 rfl) ?_
        refine lv_iconst (v := 2) hx hb dd_M_isPassed_58 (by decide) ?_
        refine lv_iload hx hb dd_M_isPassed_59 (lv_at hl 0 rfl) ?_
        refine lv_imul hx hb dd_M_isPassed_61 ?_
        refine lv_iadd hx hb dd_M_isPassed_62 ?_
        obtain ⟨hi6, hf⟩ := qq_ckE hf
        refine va_iald (D := (dC, dI)) (f := bd) (n := 64) (cA := cI) hx hb hK hP 1 0 rfl rfl (qq_inE hi6) dd_M_isPassed_63 ?_
        refine lv_if_ne (tgt := 71) hx hb dd_M_isPassed_64 (by decide) (fun hc => ?_) (fun hc => ?_)
        · replace hf := qq_f hc hf
          exact hJ71  _ _ _ (lv_sub hl [] rfl) hP hD hS hf
        · replace hf := qq_t hc hf
          refine lv_iconst (v := 1) hx hb dd_M_isPassed_67 (by decide) ?_
          refine lv_goto (tgt := 72) hx hb dd_M_isPassed_68 (by decide) ?_
          exact hJ72 1 _ _ _ (lv_sub hl [] rfl) hP hD hS hf
  · replace hf := qq_f hc hf
    refine lv_iconst (v := 1) hx hb dd_M_isPassed_4 (by decide) ?_
    cases hf
    exact qq_zret hx hb hr rfl hlocks hQ hP hD hK hS dd_M_isPassed_5
theorem dd_M_refused_0 : decode bb_M_refused 0 = .ok (.aload_n 0, 1) := by decide +kernel
theorem dd_M_refused_1 : decode bb_M_refused 1 = .ok (.iload_n 1, 1) := by decide +kernel
theorem dd_M_refused_2 : decode bb_M_refused 2 = .ok (.putfield 63, 3) := by decide +kernel
theorem dd_M_refused_5 : decode bb_M_refused 5 = .ok (.iload_n 1, 1) := by decide +kernel
theorem dd_M_refused_6 : decode bb_M_refused 6 = .ok (.ifCond .le 7, 3) := by decide +kernel
theorem dd_M_refused_9 : decode bb_M_refused 9 = .ok (.iconst 1, 1) := by decide +kernel
theorem dd_M_refused_10 : decode bb_M_refused 10 = .ok (.goto 4, 3) := by decide +kernel
theorem dd_M_refused_13 : decode bb_M_refused 13 = .ok (.iconst 0, 1) := by decide +kernel
theorem dd_M_refused_14 : decode bb_M_refused 14 = .ok (.ireturn, 1) := by decide +kernel
abbrev ty_M_refused : Type := Int32 × Int32
noncomputable def bk_M_refused_14 (a1 : Int32) (mth : Int32) (s0 : Int32) : Option ty_M_refused := qq_ck (qq_b s0) <| some (s0, mth)
noncomputable def fn_M_refused (mth : Int32) (a1 : Int32) : Option ty_M_refused := if a1 ≤ 0 then (bk_M_refused_14 a1 a1 0) else (bk_M_refused_14 a1 a1 1)
abbrev rm_M_refused : Room := { frames := 0, cells := 0, slots := 0, locals := 0 }
set_option maxHeartbeats 4000000 in
set_option maxRecDepth 100000 in
theorem ct_M_refused (l : Launch) (dC : Nat → ClassId) (dI : Nat → Nat → Nat) (cI cL cR : ClassId) (oM obd opa opS opR opG opP opQ okp okS okR okP okQ oli : Nat) (mth : Int32) (mpl : Int32) (msd : Int32) (mrt : Int32) (mps : Int32) (mqt : Int32) (mmd : Int32) (bd : Nat → Int32) (pa : Nat → Int32) (pS : Nat → Int32) (pR : Nat → Int32) (pG : Nat → Int32) (pP : Nat → Int32) (pQ : Nat → Int32) (kp : Nat → Int32) (kS : Nat → Int32) (kR : Nat → Int32) (kP : Nat → Int32) (kQ : Nat → Int32) (li : Nat → Int32) (a1 : Int32) {rr : Int32} {mth' : Int32} (hf : fn_M_refused mth a1 = some (rr, mth')) : qq_det l yy_M_refused (ww_of yy_M_refused bb_M_refused 2 (some .boolean)) rm_M_refused (dC, dI) (qq_ty cI cL cR) [.ref oM, .int a1] [(oM, .inr (5, [.int mth, .int mpl, .ref obd, .int msd, .int mrt, .int mps, .int mqt, .int mmd, .ref opa, .ref opS, .ref opR, .ref opG, .ref opP, .ref opQ, .ref okp, .ref okS, .ref okR, .ref okP, .ref okQ, .ref oli])), (obd, .inl (cI, 64, .inl bd)), (opa, .inl (cI, 9664, .inl pa)), (opS, .inl (cI, 151, .inl pS)), (opR, .inl (cI, 151, .inl pR)), (opG, .inl (cI, 151, .inl pG)), (opP, .inl (cI, 151, .inl pP)), (opQ, .inl (cI, 151, .inl pQ)), (okp, .inl (cI, 256, .inl kp)), (okS, .inl (cI, 4, .inl kS)), (okR, .inl (cI, 4, .inl kR)), (okP, .inl (cI, 4, .inl kP)), (okQ, .inl (cI, 4, .inl kQ)), (oli, .inl (cI, 1320, .inl li))] (some (.int rr)) [(oM, .inr (5, [.int mth', .int mpl, .ref obd, .int msd, .int mrt, .int mps, .int mqt, .int mmd, .ref opa, .ref opS, .ref opR, .ref opG, .ref opP, .ref opQ, .ref okp, .ref okS, .ref okR, .ref okP, .ref okQ, .ref oli])), (obd, .inl (cI, 64, .inl bd)), (opa, .inl (cI, 9664, .inl pa)), (opS, .inl (cI, 151, .inl pS)), (opR, .inl (cI, 151, .inl pR)), (opG, .inl (cI, 151, .inl pG)), (opP, .inl (cI, 151, .inl pP)), (opQ, .inl (cI, 151, .inl pQ)), (okp, .inl (cI, 256, .inl kp)), (okS, .inl (cI, 4, .inl kS)), (okR, .inl (cI, 4, .inl kR)), (okP, .inl (cI, 4, .inl kP)), (okQ, .inl (cI, 4, .inl kQ)), (oli, .inl (cI, 1320, .inl li))] := by
  refine qq_of (own := RR_M) (by decide) rfl (Nat.le_of_ble_eq_true rfl) ?_
  intro p e s m below meth c A Q ls hx hb hml hr hlocks hown hts hK hA hT hN hP hD hS hl hQ
  have hl : lv_has ls 2 [(0, .ref oM), (1, .int a1)] := hl
  have hJ14 : ∀ (mth : Int32) (s0 : Int32) (H : Heap) (locs : List Loc) (ls : Array Slot), lv_has ls 2 [] → va_P (dC, dI) classes [(oM, .inr (5, [.int mth, .int mpl, .ref obd, .int msd, .int mrt, .int mps, .int mqt, .int mmd, .ref opa, .ref opS, .ref opR, .ref opG, .ref opP, .ref opQ, .ref okp, .ref okS, .ref okR, .ref okP, .ref okQ, .ref oli])), (obd, .inl (cI, 64, .inl bd)), (opa, .inl (cI, 9664, .inl pa)), (opS, .inl (cI, 151, .inl pS)), (opR, .inl (cI, 151, .inl pR)), (opG, .inl (cI, 151, .inl pG)), (opP, .inl (cI, 151, .inl pP)), (opQ, .inl (cI, 151, .inl pQ)), (okp, .inl (cI, 256, .inl kp)), (okS, .inl (cI, 4, .inl kS)), (okR, .inl (cI, 4, .inl kR)), (okP, .inl (cI, 4, .inl kP)), (okQ, .inl (cI, 4, .inl kQ)), (oli, .inl (cI, 1320, .inl li))] H → va_D A [(oM, .inr (5, [.int mth, .int mpl, .ref obd, .int msd, .int mrt, .int mps, .int mqt, .int mmd, .ref opa, .ref opS, .ref opR, .ref opG, .ref opP, .ref opQ, .ref okp, .ref okS, .ref okR, .ref okP, .ref okQ, .ref oli])), (obd, .inl (cI, 64, .inl bd)), (opa, .inl (cI, 9664, .inl pa)), (opS, .inl (cI, 151, .inl pS)), (opR, .inl (cI, 151, .inl pR)), (opG, .inl (cI, 151, .inl pG)), (opP, .inl (cI, 151, .inl pP)), (opQ, .inl (cI, 151, .inl pQ)), (okp, .inl (cI, 256, .inl kp)), (okS, .inl (cI, 4, .inl kS)), (okR, .inl (cI, 4, .inl kR)), (okP, .inl (cI, 4, .inl kP)), (okQ, .inl (cI, 4, .inl kQ)), (oli, .inl (cI, 1320, .inl li))] → va_S A s.heap H locs → bk_M_refused_14 a1 mth s0 = some (rr, mth') → W p l e rm_M_refused s m ([.ref oM, .int a1] : List Value).toArray below meth c H locs 0 0 Q (F0 m 14 ls [.int s0]) := by
    intro mth s0 H locs ls hl hP hD hS hf
    rw [bk_M_refused_14] at hf
    obtain ⟨hzb, hf⟩ := qq_ckE hf
    cases hf
    exact qq_zret hx hb hr (qq_bE hzb) hlocks hQ hP hD hK hS dd_M_refused_14
  rw [fn_M_refused] at hf
  refine lv_aload_n hx hb dd_M_refused_0 rfl (lv_at hl 0 rfl) ?_
  refine lv_iload_n hx hb dd_M_refused_1 rfl (lv_at hl 1 rfl) ?_
  refine va_put (D := (dC, dI)) (ci := 5) (v := .int a1) (ty := .int) (C := RR_M) (T := FF_M) (N := 20) hx hb hts uu_M tt_M tt_M_ok nn_M hown hK hP hD hS 0 rfl rfl 0 (by decide) (hts _ mm_310) (fun _ h9 => h9) rfl (by decide +kernel) rfl rfl (Nat.le_of_ble_eq_true rfl) dd_M_refused_2 (fun H locs hP hD hS => ?_)
  have hP : va_P (dC, dI) classes [(oM, .inr (5, [.int a1, .int mpl, .ref obd, .int msd, .int mrt, .int mps, .int mqt, .int mmd, .ref opa, .ref opS, .ref opR, .ref opG, .ref opP, .ref opQ, .ref okp, .ref okS, .ref okR, .ref okP, .ref okQ, .ref oli])), (obd, .inl (cI, 64, .inl bd)), (opa, .inl (cI, 9664, .inl pa)), (opS, .inl (cI, 151, .inl pS)), (opR, .inl (cI, 151, .inl pR)), (opG, .inl (cI, 151, .inl pG)), (opP, .inl (cI, 151, .inl pP)), (opQ, .inl (cI, 151, .inl pQ)), (okp, .inl (cI, 256, .inl kp)), (okS, .inl (cI, 4, .inl kS)), (okR, .inl (cI, 4, .inl kR)), (okP, .inl (cI, 4, .inl kP)), (okQ, .inl (cI, 4, .inl kQ)), (oli, .inl (cI, 1320, .inl li))] H := hP
  have hD : va_D A [(oM, .inr (5, [.int a1, .int mpl, .ref obd, .int msd, .int mrt, .int mps, .int mqt, .int mmd, .ref opa, .ref opS, .ref opR, .ref opG, .ref opP, .ref opQ, .ref okp, .ref okS, .ref okR, .ref okP, .ref okQ, .ref oli])), (obd, .inl (cI, 64, .inl bd)), (opa, .inl (cI, 9664, .inl pa)), (opS, .inl (cI, 151, .inl pS)), (opR, .inl (cI, 151, .inl pR)), (opG, .inl (cI, 151, .inl pG)), (opP, .inl (cI, 151, .inl pP)), (opQ, .inl (cI, 151, .inl pQ)), (okp, .inl (cI, 256, .inl kp)), (okS, .inl (cI, 4, .inl kS)), (okR, .inl (cI, 4, .inl kR)), (okP, .inl (cI, 4, .inl kP)), (okQ, .inl (cI, 4, .inl kQ)), (oli, .inl (cI, 1320, .inl li))] := hD
  refine lv_iload_n hx hb dd_M_refused_5 rfl (lv_at hl 1 rfl) ?_
  refine lv_if_le (tgt := 13) hx hb dd_M_refused_6 (by decide) (fun hc => ?_) (fun hc => ?_)
  · replace hf := qq_t hc hf
    refine lv_iconst (v := 0) hx hb dd_M_refused_13 (by decide) ?_
    exact hJ14 a1 0 _ _ _ (lv_sub hl [] rfl) hP hD hS hf
  · replace hf := qq_f hc hf
    refine lv_iconst (v := 1) hx hb dd_M_refused_9 (by decide) ?_
    refine lv_goto (tgt := 14) hx hb dd_M_refused_10 (by decide) ?_
    exact hJ14 a1 1 _ _ _ (lv_sub hl [] rfl) hP hD hS hf
theorem dd_M_passing_0 : decode bb_M_passing 0 = .ok (.iconst 0, 1) := by decide +kernel
theorem dd_M_passing_1 : decode bb_M_passing 1 = .ok (.istore_n 1, 1) := by decide +kernel
theorem dd_M_passing_2 : decode bb_M_passing 2 = .ok (.iconst 0, 1) := by decide +kernel
theorem dd_M_passing_3 : decode bb_M_passing 3 = .ok (.istore_n 2, 1) := by decide +kernel
theorem dd_M_passing_4 : decode bb_M_passing 4 = .ok (.iload_n 2, 1) := by decide +kernel
theorem dd_M_passing_5 : decode bb_M_passing 5 = .ok (.iconst 2, 1) := by decide +kernel
theorem dd_M_passing_6 : decode bb_M_passing 6 = .ok (.if_icmp .ge 136, 3) := by decide +kernel
theorem dd_M_passing_9 : decode bb_M_passing 9 = .ok (.aload_n 0, 1) := by decide +kernel
theorem dd_M_passing_10 : decode bb_M_passing 10 = .ok (.getfield 13, 3) := by decide +kernel
theorem dd_M_passing_13 : decode bb_M_passing 13 = .ok (.ifCond .lt 129, 3) := by decide +kernel
theorem dd_M_passing_16 : decode bb_M_passing 16 = .ok (.iload_n 2, 1) := by decide +kernel
theorem dd_M_passing_17 : decode bb_M_passing 17 = .ok (.ifCond .ne 12, 3) := by decide +kernel
theorem dd_M_passing_20 : decode bb_M_passing 20 = .ok (.aload_n 0, 1) := by decide +kernel
theorem dd_M_passing_21 : decode bb_M_passing 21 = .ok (.getfield 13, 3) := by decide +kernel
theorem dd_M_passing_24 : decode bb_M_passing 24 = .ok (.iconst 1, 1) := by decide +kernel
theorem dd_M_passing_25 : decode bb_M_passing 25 = .ok (.isub, 1) := by decide +kernel
theorem dd_M_passing_26 : decode bb_M_passing 26 = .ok (.goto 9, 3) := by decide +kernel
theorem dd_M_passing_29 : decode bb_M_passing 29 = .ok (.aload_n 0, 1) := by decide +kernel
theorem dd_M_passing_30 : decode bb_M_passing 30 = .ok (.getfield 13, 3) := by decide +kernel
theorem dd_M_passing_33 : decode bb_M_passing 33 = .ok (.iconst 1, 1) := by decide +kernel
theorem dd_M_passing_34 : decode bb_M_passing 34 = .ok (.iadd, 1) := by decide +kernel
theorem dd_M_passing_35 : decode bb_M_passing 35 = .ok (.istore_n 3, 1) := by decide +kernel
theorem dd_M_passing_36 : decode bb_M_passing 36 = .ok (.bipush 8, 2) := by decide +kernel
theorem dd_M_passing_38 : decode bb_M_passing 38 = .ok (.iconst 4, 1) := by decide +kernel
theorem dd_M_passing_39 : decode bb_M_passing 39 = .ok (.aload_n 0, 1) := by decide +kernel
theorem dd_M_passing_40 : decode bb_M_passing 40 = .ok (.getfield 95, 3) := by decide +kernel
theorem dd_M_passing_43 : decode bb_M_passing 43 = .ok (.isub, 1) := by decide +kernel
theorem dd_M_passing_44 : decode bb_M_passing 44 = .ok (.imul, 1) := by decide +kernel
theorem dd_M_passing_45 : decode bb_M_passing 45 = .ok (.iload_n 3, 1) := by decide +kernel
theorem dd_M_passing_46 : decode bb_M_passing 46 = .ok (.iadd, 1) := by decide +kernel
theorem dd_M_passing_47 : decode bb_M_passing 47 = .ok (.istore 4, 2) := by decide +kernel
theorem dd_M_passing_49 : decode bb_M_passing 49 = .ok (.bipush 8, 2) := by decide +kernel
theorem dd_M_passing_51 : decode bb_M_passing 51 = .ok (.iconst 4, 1) := by decide +kernel
theorem dd_M_passing_52 : decode bb_M_passing 52 = .ok (.aload_n 0, 1) := by decide +kernel
theorem dd_M_passing_53 : decode bb_M_passing 53 = .ok (.getfield 95, 3) := by decide +kernel
theorem dd_M_passing_56 : decode bb_M_passing 56 = .ok (.isub, 1) := by decide +kernel
theorem dd_M_passing_57 : decode bb_M_passing 57 = .ok (.aload_n 0, 1) := by decide +kernel
theorem dd_M_passing_58 : decode bb_M_passing 58 = .ok (.getfield 95, 3) := by decide +kernel
theorem dd_M_passing_61 : decode bb_M_passing 61 = .ok (.invokestatic 76, 3) := by decide +kernel
theorem dd_M_passing_64 : decode bb_M_passing 64 = .ok (.iadd, 1) := by decide +kernel
theorem dd_M_passing_65 : decode bb_M_passing 65 = .ok (.imul, 1) := by decide +kernel
theorem dd_M_passing_66 : decode bb_M_passing 66 = .ok (.aload_n 0, 1) := by decide +kernel
theorem dd_M_passing_67 : decode bb_M_passing 67 = .ok (.getfield 13, 3) := by decide +kernel
theorem dd_M_passing_70 : decode bb_M_passing 70 = .ok (.iadd, 1) := by decide +kernel
theorem dd_M_passing_71 : decode bb_M_passing 71 = .ok (.istore 5, 2) := by decide +kernel
theorem dd_M_passing_73 : decode bb_M_passing 73 = .ok (.iload_n 3, 1) := by decide +kernel
theorem dd_M_passing_74 : decode bb_M_passing 74 = .ok (.iconst 0, 1) := by decide +kernel
theorem dd_M_passing_75 : decode bb_M_passing 75 = .ok (.bipush 7, 2) := by decide +kernel
theorem dd_M_passing_77 : decode bb_M_passing 77 = .ok (.invokestatic 98, 3) := by decide +kernel
theorem dd_M_passing_80 : decode bb_M_passing 80 = .ok (.ifCond .ne 38, 3) := by decide +kernel
theorem dd_M_passing_83 : decode bb_M_passing 83 = .ok (.aload_n 0, 1) := by decide +kernel
theorem dd_M_passing_84 : decode bb_M_passing 84 = .ok (.getfield 7, 3) := by decide +kernel
theorem dd_M_passing_87 : decode bb_M_passing 87 = .ok (.iload 4, 2) := by decide +kernel
theorem dd_M_passing_89 : decode bb_M_passing 89 = .ok (.iaload, 1) := by decide +kernel
theorem dd_M_passing_90 : decode bb_M_passing 90 = .ok (.iconst 1, 1) := by decide +kernel
theorem dd_M_passing_91 : decode bb_M_passing 91 = .ok (.bipush 6, 2) := by decide +kernel
theorem dd_M_passing_93 : decode bb_M_passing 93 = .ok (.aload_n 0, 1) := by decide +kernel
theorem dd_M_passing_94 : decode bb_M_passing 94 = .ok (.getfield 95, 3) := by decide +kernel
theorem dd_M_passing_97 : decode bb_M_passing 97 = .ok (.imul, 1) := by decide +kernel
theorem dd_M_passing_98 : decode bb_M_passing 98 = .ok (.iadd, 1) := by decide +kernel
theorem dd_M_passing_99 : decode bb_M_passing 99 = .ok (.if_icmp .ne 19, 3) := by decide +kernel
theorem dd_M_passing_102 : decode bb_M_passing 102 = .ok (.aload_n 0, 1) := by decide +kernel
theorem dd_M_passing_103 : decode bb_M_passing 103 = .ok (.iload 4, 2) := by decide +kernel
theorem dd_M_passing_105 : decode bb_M_passing 105 = .ok (.iload 5, 2) := by decide +kernel
theorem dd_M_passing_107 : decode bb_M_passing 107 = .ok (.iconst 0, 1) := by decide +kernel
theorem dd_M_passing_108 : decode bb_M_passing 108 = .ok (.invokevirtual 135, 3) := by decide +kernel
theorem dd_M_passing_111 : decode bb_M_passing 111 = .ok (.ifCond .eq 7, 3) := by decide +kernel
theorem dd_M_passing_114 : decode bb_M_passing 114 = .ok (.iconst 1, 1) := by decide +kernel
theorem dd_M_passing_115 : decode bb_M_passing 115 = .ok (.goto 4, 3) := by decide +kernel
theorem dd_M_passing_118 : decode bb_M_passing 118 = .ok (.iconst 0, 1) := by decide +kernel
theorem dd_M_passing_119 : decode bb_M_passing 119 = .ok (.istore 6, 2) := by decide +kernel
theorem dd_M_passing_121 : decode bb_M_passing 121 = .ok (.iload 6, 2) := by decide +kernel
theorem dd_M_passing_123 : decode bb_M_passing 123 = .ok (.ifCond .eq 11, 3) := by decide +kernel
theorem dd_M_passing_126 : decode bb_M_passing 126 = .ok (.iload_n 1, 1) := by decide +kernel
theorem dd_M_passing_127 : decode bb_M_passing 127 = .ok (.iconst 1, 1) := by decide +kernel
theorem dd_M_passing_128 : decode bb_M_passing 128 = .ok (.iadd, 1) := by decide +kernel
theorem dd_M_passing_129 : decode bb_M_passing 129 = .ok (.iload_n 2, 1) := by decide +kernel
theorem dd_M_passing_130 : decode bb_M_passing 130 = .ok (.iadd, 1) := by decide +kernel
theorem dd_M_passing_131 : decode bb_M_passing 131 = .ok (.goto 4, 3) := by decide +kernel
theorem dd_M_passing_134 : decode bb_M_passing 134 = .ok (.iload_n 1, 1) := by decide +kernel
theorem dd_M_passing_135 : decode bb_M_passing 135 = .ok (.istore_n 1, 1) := by decide +kernel
theorem dd_M_passing_136 : decode bb_M_passing 136 = .ok (.iinc 2 1, 3) := by decide +kernel
theorem dd_M_passing_139 : decode bb_M_passing 139 = .ok (.goto (-135), 3) := by decide +kernel
theorem dd_M_passing_142 : decode bb_M_passing 142 = .ok (.iload_n 1, 1) := by decide +kernel
theorem dd_M_passing_143 : decode bb_M_passing 143 = .ok (.ifCond .ne 7, 3) := by decide +kernel
theorem dd_M_passing_146 : decode bb_M_passing 146 = .ok (.iconst 0, 1) := by decide +kernel
theorem dd_M_passing_147 : decode bb_M_passing 147 = .ok (.goto 13, 3) := by decide +kernel
theorem dd_M_passing_150 : decode bb_M_passing 150 = .ok (.iconst 4, 1) := by decide +kernel
theorem dd_M_passing_151 : decode bb_M_passing 151 = .ok (.aload_n 0, 1) := by decide +kernel
theorem dd_M_passing_152 : decode bb_M_passing 152 = .ok (.getfield 13, 3) := by decide +kernel
theorem dd_M_passing_155 : decode bb_M_passing 155 = .ok (.iconst 1, 1) := by decide +kernel
theorem dd_M_passing_156 : decode bb_M_passing 156 = .ok (.iadd, 1) := by decide +kernel
theorem dd_M_passing_157 : decode bb_M_passing 157 = .ok (.imul, 1) := by decide +kernel
theorem dd_M_passing_158 : decode bb_M_passing 158 = .ok (.iload_n 1, 1) := by decide +kernel
theorem dd_M_passing_159 : decode bb_M_passing 159 = .ok (.iadd, 1) := by decide +kernel
theorem dd_M_passing_160 : decode bb_M_passing 160 = .ok (.ireturn, 1) := by decide +kernel
abbrev ty_M_passing : Type := Int32 × Int32 × Int32 × Int32 × Int32 × (Nat → Int32) × (Nat → Int32) × (Nat → Int32) × (Nat → Int32) × (Nat → Int32) × (Nat → Int32)
noncomputable def bk_M_passing_160 (msd : Int32) (mrt : Int32) (mps : Int32) (mqt : Int32) (bd : Nat → Int32) (kp : Nat → Int32) (kS : Nat → Int32) (kR : Nat → Int32) (kP : Nat → Int32) (kQ : Nat → Int32) (s0 : Int32) : Option ty_M_passing := some (s0, msd, mrt, mps, mqt, bd, kp, kS, kR, kP, kQ)
noncomputable def bk_M_passing_142 (msd : Int32) (mrt : Int32) (mps : Int32) (mqt : Int32) (bd : Nat → Int32) (kp : Nat → Int32) (kS : Nat → Int32) (kR : Nat → Int32) (kP : Nat → Int32) (kQ : Nat → Int32) (x1 : Int32) : Option ty_M_passing := if x1 = 0 then (bk_M_passing_160 msd mrt mps mqt bd kp kS kR kP kQ 0) else (bk_M_passing_160 msd mrt mps mqt bd kp kS kR kP kQ ((4 * (mps + 1)) + x1))
noncomputable def bk_M_passing_135 (k4 : Int32 → Int32 → Int32 → Int32 → (Nat → Int32) → (Nat → Int32) → (Nat → Int32) → (Nat → Int32) → (Nat → Int32) → (Nat → Int32) → Int32 → Int32 → Option ty_M_passing) (msd : Int32) (mrt : Int32) (mps : Int32) (mqt : Int32) (bd : Nat → Int32) (kp : Nat → Int32) (kS : Nat → Int32) (kR : Nat → Int32) (kP : Nat → Int32) (kQ : Nat → Int32) (x2 : Int32) (s0 : Int32) : Option ty_M_passing := qq_let (x2 + 1) fun v3001 => k4 msd mrt mps mqt bd kp kS kR kP kQ s0 v3001
noncomputable def bk_M_passing_119 (k4 : Int32 → Int32 → Int32 → Int32 → (Nat → Int32) → (Nat → Int32) → (Nat → Int32) → (Nat → Int32) → (Nat → Int32) → (Nat → Int32) → Int32 → Int32 → Option ty_M_passing) (msd : Int32) (mrt : Int32) (mps : Int32) (mqt : Int32) (bd : Nat → Int32) (kp : Nat → Int32) (kS : Nat → Int32) (kR : Nat → Int32) (kP : Nat → Int32) (kQ : Nat → Int32) (x1 : Int32) (x2 : Int32) (s0 : Int32) : Option ty_M_passing := if s0 = 0 then (bk_M_passing_135 k4 msd mrt mps mqt bd kp kS kR kP kQ x2 x1) else (bk_M_passing_135 k4 msd mrt mps mqt bd kp kS kR kP kQ x2 ((x1 + 1) + x2))
noncomputable def bk_M_passing_118 (k4 : Int32 → Int32 → Int32 → Int32 → (Nat → Int32) → (Nat → Int32) → (Nat → Int32) → (Nat → Int32) → (Nat → Int32) → (Nat → Int32) → Int32 → Int32 → Option ty_M_passing) (msd : Int32) (mrt : Int32) (mps : Int32) (mqt : Int32) (bd : Nat → Int32) (kp : Nat → Int32) (kS : Nat → Int32) (kR : Nat → Int32) (kP : Nat → Int32) (kQ : Nat → Int32) (x1 : Int32) (x2 : Int32) : Option ty_M_passing := bk_M_passing_119 k4 msd mrt mps mqt bd kp kS kR kP kQ x1 x2 0
noncomputable def bk_M_passing_35 (k4 : Int32 → Int32 → Int32 → Int32 → (Nat → Int32) → (Nat → Int32) → (Nat → Int32) → (Nat → Int32) → (Nat → Int32) → (Nat → Int32) → Int32 → Int32 → Option ty_M_passing) (msd : Int32) (mrt : Int32) (mps : Int32) (mqt : Int32) (bd : Nat → Int32) (kp : Nat → Int32) (kS : Nat → Int32) (kR : Nat → Int32) (kP : Nat → Int32) (kQ : Nat → Int32) (x1 : Int32) (x2 : Int32) (s0 : Int32) : Option ty_M_passing := qq_let ((8 * (4 - msd)) + s0) fun v6001 => (fn_M_ahead msd).bind fun r6002 => qq_let ((8 * ((4 - msd) + r6002)) + mps) fun v6003 => (fn_M_outside s0 0 7).bind fun r6004 => if r6004 = 0 then (qq_ck (qq_in v6001 64) <| if (bd v6001.toNatClampNeg) = (1 + (6 * msd)) then ((fn_M_isMove msd mrt mps mqt bd kp kS kR kP kQ v6001 v6003 0).bind fun (r6006, msd_6007, mrt_6008, mps_6009, mqt_6010, bd_6011, kp_6012, kS_6013, kR_6014, kP_6015, kQ_6016) => if r6006 = 0 then (bk_M_passing_118 k4 msd_6007 mrt_6008 mps_6009 mqt_6010 bd_6011 kp_6012 kS_6013 kR_6014 kP_6015 kQ_6016 x1 x2) else (bk_M_passing_119 k4 msd_6007 mrt_6008 mps_6009 mqt_6010 bd_6011 kp_6012 kS_6013 kR_6014 kP_6015 kQ_6016 x1 x2 1)) else (bk_M_passing_118 k4 msd mrt mps mqt bd kp kS kR kP kQ x1 x2)) else (bk_M_passing_118 k4 msd mrt mps mqt bd kp kS kR kP kQ x1 x2)
noncomputable def lo_M_passing_4 : Nat → Int32 → Int32 → Int32 → Int32 → (Nat → Int32) → (Nat → Int32) → (Nat → Int32) → (Nat → Int32) → (Nat → Int32) → (Nat → Int32) → Int32 → Int32 → Option ty_M_passing
  | 0, _, _, _, _, _, _, _, _, _, _, _, _ => none
  | n + 1, msd, mrt, mps, mqt, bd, kp, kS, kR, kP, kQ, x1, x2 => if 2 ≤ x2 then (bk_M_passing_142 msd mrt mps mqt bd kp kS kR kP kQ x1) else (if mps < 0 then (bk_M_passing_142 msd mrt mps mqt bd kp kS kR kP kQ x1) else (if x2 = 0 then (bk_M_passing_35 (lo_M_passing_4  n) msd mrt mps mqt bd kp kS kR kP kQ x1 x2 (mps - 1)) else (bk_M_passing_35 (lo_M_passing_4  n) msd mrt mps mqt bd kp kS kR kP kQ x1 x2 (mps + 1))))
theorem lo_M_passing_4_z (msd : Int32) (mrt : Int32) (mps : Int32) (mqt : Int32) (bd : Nat → Int32) (kp : Nat → Int32) (kS : Nat → Int32) (kR : Nat → Int32) (kP : Nat → Int32) (kQ : Nat → Int32) (x1 : Int32) (x2 : Int32) : lo_M_passing_4  0 msd mrt mps mqt bd kp kS kR kP kQ x1 x2 = none := rfl
theorem lo_M_passing_4_s (msd : Int32) (mrt : Int32) (mps : Int32) (mqt : Int32) (bd : Nat → Int32) (kp : Nat → Int32) (kS : Nat → Int32) (kR : Nat → Int32) (kP : Nat → Int32) (kQ : Nat → Int32) (x1 : Int32) (x2 : Int32) (n : Nat) : lo_M_passing_4  (n + 1) msd mrt mps mqt bd kp kS kR kP kQ x1 x2 = (if 2 ≤ x2 then (bk_M_passing_142 msd mrt mps mqt bd kp kS kR kP kQ x1) else (if mps < 0 then (bk_M_passing_142 msd mrt mps mqt bd kp kS kR kP kQ x1) else (if x2 = 0 then (bk_M_passing_35 (lo_M_passing_4  n) msd mrt mps mqt bd kp kS kR kP kQ x1 x2 (mps - 1)) else (bk_M_passing_35 (lo_M_passing_4  n) msd mrt mps mqt bd kp kS kR kP kQ x1 x2 (mps + 1))))) := rfl
noncomputable def fn_M_passing (msd : Int32) (mrt : Int32) (mps : Int32) (mqt : Int32) (bd : Nat → Int32) (kp : Nat → Int32) (kS : Nat → Int32) (kR : Nat → Int32) (kP : Nat → Int32) (kQ : Nat → Int32) : Option ty_M_passing := lo_M_passing_4 qq_FU msd mrt mps mqt bd kp kS kR kP kQ 0 0
abbrev rm_M_passing : Room := { frames := 8, cells := 0, slots := 0, locals := 188 }
set_option maxHeartbeats 4000000 in
set_option maxRecDepth 100000 in
theorem ct_M_passing (l : Launch) (dC : Nat → ClassId) (dI : Nat → Nat → Nat) (cI cL cR : ClassId) (oM obd opa opS opR opG opP opQ okp okS okR okP okQ oli : Nat) (mth : Int32) (mpl : Int32) (msd : Int32) (mrt : Int32) (mps : Int32) (mqt : Int32) (mmd : Int32) (bd : Nat → Int32) (pa : Nat → Int32) (pS : Nat → Int32) (pR : Nat → Int32) (pG : Nat → Int32) (pP : Nat → Int32) (pQ : Nat → Int32) (kp : Nat → Int32) (kS : Nat → Int32) (kR : Nat → Int32) (kP : Nat → Int32) (kQ : Nat → Int32) (li : Nat → Int32) {rr : Int32} {msd' : Int32} {mrt' : Int32} {mps' : Int32} {mqt' : Int32} {bd' : Nat → Int32} {kp' : Nat → Int32} {kS' : Nat → Int32} {kR' : Nat → Int32} {kP' : Nat → Int32} {kQ' : Nat → Int32} (hf : fn_M_passing msd mrt mps mqt bd kp kS kR kP kQ = some (rr, msd', mrt', mps', mqt', bd', kp', kS', kR', kP', kQ')) : qq_det l yy_M_passing (ww_of yy_M_passing bb_M_passing 7 (some .int)) rm_M_passing (dC, dI) (qq_ty cI cL cR) [.ref oM] [(oM, .inr (5, [.int mth, .int mpl, .ref obd, .int msd, .int mrt, .int mps, .int mqt, .int mmd, .ref opa, .ref opS, .ref opR, .ref opG, .ref opP, .ref opQ, .ref okp, .ref okS, .ref okR, .ref okP, .ref okQ, .ref oli])), (obd, .inl (cI, 64, .inl bd)), (opa, .inl (cI, 9664, .inl pa)), (opS, .inl (cI, 151, .inl pS)), (opR, .inl (cI, 151, .inl pR)), (opG, .inl (cI, 151, .inl pG)), (opP, .inl (cI, 151, .inl pP)), (opQ, .inl (cI, 151, .inl pQ)), (okp, .inl (cI, 256, .inl kp)), (okS, .inl (cI, 4, .inl kS)), (okR, .inl (cI, 4, .inl kR)), (okP, .inl (cI, 4, .inl kP)), (okQ, .inl (cI, 4, .inl kQ)), (oli, .inl (cI, 1320, .inl li))] (some (.int rr)) [(oM, .inr (5, [.int mth, .int mpl, .ref obd, .int msd', .int mrt', .int mps', .int mqt', .int mmd, .ref opa, .ref opS, .ref opR, .ref opG, .ref opP, .ref opQ, .ref okp, .ref okS, .ref okR, .ref okP, .ref okQ, .ref oli])), (obd, .inl (cI, 64, .inl bd')), (opa, .inl (cI, 9664, .inl pa)), (opS, .inl (cI, 151, .inl pS)), (opR, .inl (cI, 151, .inl pR)), (opG, .inl (cI, 151, .inl pG)), (opP, .inl (cI, 151, .inl pP)), (opQ, .inl (cI, 151, .inl pQ)), (okp, .inl (cI, 256, .inl kp')), (okS, .inl (cI, 4, .inl kS')), (okR, .inl (cI, 4, .inl kR')), (okP, .inl (cI, 4, .inl kP')), (okQ, .inl (cI, 4, .inl kQ')), (oli, .inl (cI, 1320, .inl li))] := by
  refine qq_of (own := RR_M) (by decide) rfl (Nat.le_of_ble_eq_true rfl) ?_
  intro p e s m below meth c A Q ls hx hb hml hr hlocks hown hts hK hA hT hN hP hD hS hl hQ
  have hl : lv_has ls 7 [(0, .ref oM)] := hl
  have hJ160 : ∀ (msd : Int32) (mrt : Int32) (mps : Int32) (mqt : Int32) (bd : Nat → Int32) (kp : Nat → Int32) (kS : Nat → Int32) (kR : Nat → Int32) (kP : Nat → Int32) (kQ : Nat → Int32) (s0 : Int32) (H : Heap) (locs : List Loc) (ls : Array Slot), lv_has ls 7 [] → va_P (dC, dI) classes [(oM, .inr (5, [.int mth, .int mpl, .ref obd, .int msd, .int mrt, .int mps, .int mqt, .int mmd, .ref opa, .ref opS, .ref opR, .ref opG, .ref opP, .ref opQ, .ref okp, .ref okS, .ref okR, .ref okP, .ref okQ, .ref oli])), (obd, .inl (cI, 64, .inl bd)), (opa, .inl (cI, 9664, .inl pa)), (opS, .inl (cI, 151, .inl pS)), (opR, .inl (cI, 151, .inl pR)), (opG, .inl (cI, 151, .inl pG)), (opP, .inl (cI, 151, .inl pP)), (opQ, .inl (cI, 151, .inl pQ)), (okp, .inl (cI, 256, .inl kp)), (okS, .inl (cI, 4, .inl kS)), (okR, .inl (cI, 4, .inl kR)), (okP, .inl (cI, 4, .inl kP)), (okQ, .inl (cI, 4, .inl kQ)), (oli, .inl (cI, 1320, .inl li))] H → va_D A [(oM, .inr (5, [.int mth, .int mpl, .ref obd, .int msd, .int mrt, .int mps, .int mqt, .int mmd, .ref opa, .ref opS, .ref opR, .ref opG, .ref opP, .ref opQ, .ref okp, .ref okS, .ref okR, .ref okP, .ref okQ, .ref oli])), (obd, .inl (cI, 64, .inl bd)), (opa, .inl (cI, 9664, .inl pa)), (opS, .inl (cI, 151, .inl pS)), (opR, .inl (cI, 151, .inl pR)), (opG, .inl (cI, 151, .inl pG)), (opP, .inl (cI, 151, .inl pP)), (opQ, .inl (cI, 151, .inl pQ)), (okp, .inl (cI, 256, .inl kp)), (okS, .inl (cI, 4, .inl kS)), (okR, .inl (cI, 4, .inl kR)), (okP, .inl (cI, 4, .inl kP)), (okQ, .inl (cI, 4, .inl kQ)), (oli, .inl (cI, 1320, .inl li))] → va_S A s.heap H locs → bk_M_passing_160 msd mrt mps mqt bd kp kS kR kP kQ s0 = some (rr, msd', mrt', mps', mqt', bd', kp', kS', kR', kP', kQ') → W p l e rm_M_passing s m ([.ref oM] : List Value).toArray below meth c H locs 0 0 Q (F0 m 160 ls [.int s0]) := by
    intro msd mrt mps mqt bd kp kS kR kP kQ s0 H locs ls hl hP hD hS hf
    rw [bk_M_passing_160] at hf
    cases hf
    exact qq_iret hx hb hr hlocks hQ hP hD hK hS dd_M_passing_160
  have hJ142 : ∀ (msd : Int32) (mrt : Int32) (mps : Int32) (mqt : Int32) (bd : Nat → Int32) (kp : Nat → Int32) (kS : Nat → Int32) (kR : Nat → Int32) (kP : Nat → Int32) (kQ : Nat → Int32) (x1 : Int32) (H : Heap) (locs : List Loc) (ls : Array Slot), lv_has ls 7 [(0, .ref oM), (1, .int x1)] → va_P (dC, dI) classes [(oM, .inr (5, [.int mth, .int mpl, .ref obd, .int msd, .int mrt, .int mps, .int mqt, .int mmd, .ref opa, .ref opS, .ref opR, .ref opG, .ref opP, .ref opQ, .ref okp, .ref okS, .ref okR, .ref okP, .ref okQ, .ref oli])), (obd, .inl (cI, 64, .inl bd)), (opa, .inl (cI, 9664, .inl pa)), (opS, .inl (cI, 151, .inl pS)), (opR, .inl (cI, 151, .inl pR)), (opG, .inl (cI, 151, .inl pG)), (opP, .inl (cI, 151, .inl pP)), (opQ, .inl (cI, 151, .inl pQ)), (okp, .inl (cI, 256, .inl kp)), (okS, .inl (cI, 4, .inl kS)), (okR, .inl (cI, 4, .inl kR)), (okP, .inl (cI, 4, .inl kP)), (okQ, .inl (cI, 4, .inl kQ)), (oli, .inl (cI, 1320, .inl li))] H → va_D A [(oM, .inr (5, [.int mth, .int mpl, .ref obd, .int msd, .int mrt, .int mps, .int mqt, .int mmd, .ref opa, .ref opS, .ref opR, .ref opG, .ref opP, .ref opQ, .ref okp, .ref okS, .ref okR, .ref okP, .ref okQ, .ref oli])), (obd, .inl (cI, 64, .inl bd)), (opa, .inl (cI, 9664, .inl pa)), (opS, .inl (cI, 151, .inl pS)), (opR, .inl (cI, 151, .inl pR)), (opG, .inl (cI, 151, .inl pG)), (opP, .inl (cI, 151, .inl pP)), (opQ, .inl (cI, 151, .inl pQ)), (okp, .inl (cI, 256, .inl kp)), (okS, .inl (cI, 4, .inl kS)), (okR, .inl (cI, 4, .inl kR)), (okP, .inl (cI, 4, .inl kP)), (okQ, .inl (cI, 4, .inl kQ)), (oli, .inl (cI, 1320, .inl li))] → va_S A s.heap H locs → bk_M_passing_142 msd mrt mps mqt bd kp kS kR kP kQ x1 = some (rr, msd', mrt', mps', mqt', bd', kp', kS', kR', kP', kQ') → W p l e rm_M_passing s m ([.ref oM] : List Value).toArray below meth c H locs 0 0 Q (F0 m 142 ls []) := by
    intro msd mrt mps mqt bd kp kS kR kP kQ x1 H locs ls hl hP hD hS hf
    rw [bk_M_passing_142] at hf
    refine lv_iload_n hx hb dd_M_passing_142 rfl (lv_at hl 1 rfl) ?_
    refine lv_if_ne (tgt := 150) hx hb dd_M_passing_143 (by decide) (fun hc => ?_) (fun hc => ?_)
    · replace hf := qq_f hc hf
      refine lv_iconst (v := 4) hx hb dd_M_passing_150 (by decide) ?_
      refine lv_aload_n hx hb dd_M_passing_151 rfl (lv_at hl 0 rfl) ?_
      refine va_get (D := (dC, dI)) (ci := 5) (v := .int mps) (C := RR_M) (T := FF_M) (N := 20) hx hb hts uu_M hown hK hP 0 rfl rfl 5 (by decide) (hts _ mm_227) (fun _ h9 => h9) rfl dd_M_passing_152 ?_
      refine lv_iconst (v := 1) hx hb dd_M_passing_155 (by decide) ?_
      refine lv_iadd hx hb dd_M_passing_156 ?_
      refine lv_imul hx hb dd_M_passing_157 ?_
      refine lv_iload_n hx hb dd_M_passing_158 rfl (lv_at hl 1 rfl) ?_
      refine lv_iadd hx hb dd_M_passing_159 ?_
      exact hJ160 msd mrt mps mqt bd kp kS kR kP kQ ((4 * (mps + 1)) + x1) _ _ _ (lv_sub hl [] rfl) hP hD hS hf
    · replace hf := qq_t hc hf
      refine lv_iconst (v := 0) hx hb dd_M_passing_146 (by decide) ?_
      refine lv_goto (tgt := 160) hx hb dd_M_passing_147 (by decide) ?_
      exact hJ160 msd mrt mps mqt bd kp kS kR kP kQ 0 _ _ _ (lv_sub hl [] rfl) hP hD hS hf
  have hL4 : ∀ (n4 : Nat) (msd : Int32) (mrt : Int32) (mps : Int32) (mqt : Int32) (bd : Nat → Int32) (kp : Nat → Int32) (kS : Nat → Int32) (kR : Nat → Int32) (kP : Nat → Int32) (kQ : Nat → Int32) (x1 : Int32) (x2 : Int32) (H : Heap) (locs : List Loc) (ls : Array Slot), lv_has ls 7 [(0, .ref oM), (1, .int x1), (2, .int x2)] → va_P (dC, dI) classes [(oM, .inr (5, [.int mth, .int mpl, .ref obd, .int msd, .int mrt, .int mps, .int mqt, .int mmd, .ref opa, .ref opS, .ref opR, .ref opG, .ref opP, .ref opQ, .ref okp, .ref okS, .ref okR, .ref okP, .ref okQ, .ref oli])), (obd, .inl (cI, 64, .inl bd)), (opa, .inl (cI, 9664, .inl pa)), (opS, .inl (cI, 151, .inl pS)), (opR, .inl (cI, 151, .inl pR)), (opG, .inl (cI, 151, .inl pG)), (opP, .inl (cI, 151, .inl pP)), (opQ, .inl (cI, 151, .inl pQ)), (okp, .inl (cI, 256, .inl kp)), (okS, .inl (cI, 4, .inl kS)), (okR, .inl (cI, 4, .inl kR)), (okP, .inl (cI, 4, .inl kP)), (okQ, .inl (cI, 4, .inl kQ)), (oli, .inl (cI, 1320, .inl li))] H → va_D A [(oM, .inr (5, [.int mth, .int mpl, .ref obd, .int msd, .int mrt, .int mps, .int mqt, .int mmd, .ref opa, .ref opS, .ref opR, .ref opG, .ref opP, .ref opQ, .ref okp, .ref okS, .ref okR, .ref okP, .ref okQ, .ref oli])), (obd, .inl (cI, 64, .inl bd)), (opa, .inl (cI, 9664, .inl pa)), (opS, .inl (cI, 151, .inl pS)), (opR, .inl (cI, 151, .inl pR)), (opG, .inl (cI, 151, .inl pG)), (opP, .inl (cI, 151, .inl pP)), (opQ, .inl (cI, 151, .inl pQ)), (okp, .inl (cI, 256, .inl kp)), (okS, .inl (cI, 4, .inl kS)), (okR, .inl (cI, 4, .inl kR)), (okP, .inl (cI, 4, .inl kP)), (okQ, .inl (cI, 4, .inl kQ)), (oli, .inl (cI, 1320, .inl li))] → va_S A s.heap H locs → lo_M_passing_4 n4 msd mrt mps mqt bd kp kS kR kP kQ x1 x2 = some (rr, msd', mrt', mps', mqt', bd', kp', kS', kR', kP', kQ') → W p l e rm_M_passing s m ([.ref oM] : List Value).toArray below meth c H locs 0 0 Q (F0 m 4 ls []) := by
    intro n4
    induction n4 with
    | zero => exact fun msd mrt mps mqt bd kp kS kR kP kQ x1 x2 H locs ls hl hP hD hS hf => absurd hf (by rw [lo_M_passing_4_z]; exact fun h => by cases h)
    | succ n4 ih4 =>
      have hJ135 : ∀ (msd : Int32) (mrt : Int32) (mps : Int32) (mqt : Int32) (bd : Nat → Int32) (kp : Nat → Int32) (kS : Nat → Int32) (kR : Nat → Int32) (kP : Nat → Int32) (kQ : Nat → Int32) (x2 : Int32) (s0 : Int32) (H : Heap) (locs : List Loc) (ls : Array Slot), lv_has ls 7 [(0, .ref oM), (2, .int x2)] → va_P (dC, dI) classes [(oM, .inr (5, [.int mth, .int mpl, .ref obd, .int msd, .int mrt, .int mps, .int mqt, .int mmd, .ref opa, .ref opS, .ref opR, .ref opG, .ref opP, .ref opQ, .ref okp, .ref okS, .ref okR, .ref okP, .ref okQ, .ref oli])), (obd, .inl (cI, 64, .inl bd)), (opa, .inl (cI, 9664, .inl pa)), (opS, .inl (cI, 151, .inl pS)), (opR, .inl (cI, 151, .inl pR)), (opG, .inl (cI, 151, .inl pG)), (opP, .inl (cI, 151, .inl pP)), (opQ, .inl (cI, 151, .inl pQ)), (okp, .inl (cI, 256, .inl kp)), (okS, .inl (cI, 4, .inl kS)), (okR, .inl (cI, 4, .inl kR)), (okP, .inl (cI, 4, .inl kP)), (okQ, .inl (cI, 4, .inl kQ)), (oli, .inl (cI, 1320, .inl li))] H → va_D A [(oM, .inr (5, [.int mth, .int mpl, .ref obd, .int msd, .int mrt, .int mps, .int mqt, .int mmd, .ref opa, .ref opS, .ref opR, .ref opG, .ref opP, .ref opQ, .ref okp, .ref okS, .ref okR, .ref okP, .ref okQ, .ref oli])), (obd, .inl (cI, 64, .inl bd)), (opa, .inl (cI, 9664, .inl pa)), (opS, .inl (cI, 151, .inl pS)), (opR, .inl (cI, 151, .inl pR)), (opG, .inl (cI, 151, .inl pG)), (opP, .inl (cI, 151, .inl pP)), (opQ, .inl (cI, 151, .inl pQ)), (okp, .inl (cI, 256, .inl kp)), (okS, .inl (cI, 4, .inl kS)), (okR, .inl (cI, 4, .inl kR)), (okP, .inl (cI, 4, .inl kP)), (okQ, .inl (cI, 4, .inl kQ)), (oli, .inl (cI, 1320, .inl li))] → va_S A s.heap H locs → bk_M_passing_135 (lo_M_passing_4 n4) msd mrt mps mqt bd kp kS kR kP kQ x2 s0 = some (rr, msd', mrt', mps', mqt', bd', kp', kS', kR', kP', kQ') → W p l e rm_M_passing s m ([.ref oM] : List Value).toArray below meth c H locs 0 0 Q (F0 m 135 ls [.int s0]) := by
        intro msd mrt mps mqt bd kp kS kR kP kQ x2 s0 H locs ls hl hP hD hS hf
        rw [bk_M_passing_135] at hf
        refine lv_istore_n (lv' := [(1, .int s0), (0, .ref oM), (2, .int x2)]) hx hb dd_M_passing_135 rfl hl (by decide) rfl (fun ls hl => ?_)
        obtain ⟨v3001, ev3001⟩ : ∃ z, z = x2 + 1 := ⟨_, rfl⟩
        replace hf := qq_lt ev3001 hf
        refine lv_iinc (k := 2) (v := v3001) (lv' := [(2, .int v3001), (1, .int s0), (0, .ref oM)]) hx hb dd_M_passing_136 hl rfl (by rw [ev3001]; exact congrArg _ (by decide)) (by decide) rfl (fun ls hl => ?_)
        refine lv_goto (tgt := 4) hx hb dd_M_passing_139 (by decide) ?_
        exact ih4 msd mrt mps mqt bd kp kS kR kP kQ s0 v3001 _ _ _ (lv_sub hl [2, 1, 0] rfl) hP hD hS hf
      have hJ119 : ∀ (msd : Int32) (mrt : Int32) (mps : Int32) (mqt : Int32) (bd : Nat → Int32) (kp : Nat → Int32) (kS : Nat → Int32) (kR : Nat → Int32) (kP : Nat → Int32) (kQ : Nat → Int32) (x1 : Int32) (x2 : Int32) (s0 : Int32) (H : Heap) (locs : List Loc) (ls : Array Slot), lv_has ls 7 [(0, .ref oM), (1, .int x1), (2, .int x2)] → va_P (dC, dI) classes [(oM, .inr (5, [.int mth, .int mpl, .ref obd, .int msd, .int mrt, .int mps, .int mqt, .int mmd, .ref opa, .ref opS, .ref opR, .ref opG, .ref opP, .ref opQ, .ref okp, .ref okS, .ref okR, .ref okP, .ref okQ, .ref oli])), (obd, .inl (cI, 64, .inl bd)), (opa, .inl (cI, 9664, .inl pa)), (opS, .inl (cI, 151, .inl pS)), (opR, .inl (cI, 151, .inl pR)), (opG, .inl (cI, 151, .inl pG)), (opP, .inl (cI, 151, .inl pP)), (opQ, .inl (cI, 151, .inl pQ)), (okp, .inl (cI, 256, .inl kp)), (okS, .inl (cI, 4, .inl kS)), (okR, .inl (cI, 4, .inl kR)), (okP, .inl (cI, 4, .inl kP)), (okQ, .inl (cI, 4, .inl kQ)), (oli, .inl (cI, 1320, .inl li))] H → va_D A [(oM, .inr (5, [.int mth, .int mpl, .ref obd, .int msd, .int mrt, .int mps, .int mqt, .int mmd, .ref opa, .ref opS, .ref opR, .ref opG, .ref opP, .ref opQ, .ref okp, .ref okS, .ref okR, .ref okP, .ref okQ, .ref oli])), (obd, .inl (cI, 64, .inl bd)), (opa, .inl (cI, 9664, .inl pa)), (opS, .inl (cI, 151, .inl pS)), (opR, .inl (cI, 151, .inl pR)), (opG, .inl (cI, 151, .inl pG)), (opP, .inl (cI, 151, .inl pP)), (opQ, .inl (cI, 151, .inl pQ)), (okp, .inl (cI, 256, .inl kp)), (okS, .inl (cI, 4, .inl kS)), (okR, .inl (cI, 4, .inl kR)), (okP, .inl (cI, 4, .inl kP)), (okQ, .inl (cI, 4, .inl kQ)), (oli, .inl (cI, 1320, .inl li))] → va_S A s.heap H locs → bk_M_passing_119 (lo_M_passing_4 n4) msd mrt mps mqt bd kp kS kR kP kQ x1 x2 s0 = some (rr, msd', mrt', mps', mqt', bd', kp', kS', kR', kP', kQ') → W p l e rm_M_passing s m ([.ref oM] : List Value).toArray below meth c H locs 0 0 Q (F0 m 119 ls [.int s0]) := by
        intro msd mrt mps mqt bd kp kS kR kP kQ x1 x2 s0 H locs ls hl hP hD hS hf
        rw [bk_M_passing_119] at hf
        refine lv_istore (lv' := [(6, .int s0), (0, .ref oM), (1, .int x1), (2, .int x2)]) hx hb dd_M_passing_119 hl (by decide) rfl (fun ls hl => ?_)
        refine lv_iload hx hb dd_M_passing_121 (lv_at hl 0 rfl) ?_
        refine lv_if_eq (tgt := 134) hx hb dd_M_passing_123 (by decide) (fun hc => ?_) (fun hc => ?_)
        · replace hf := qq_t hc hf
          refine lv_iload_n hx hb dd_M_passing_134 rfl (lv_at hl 2 rfl) ?_
          exact hJ135 msd mrt mps mqt bd kp kS kR kP kQ x2 x1 _ _ _ (lv_sub hl [1, 3] rfl) hP hD hS hf
        · replace hf := qq_f hc hf
          refine lv_iload_n hx hb dd_M_passing_126 rfl (lv_at hl 2 rfl) ?_
          refine lv_iconst (v := 1) hx hb dd_M_passing_127 (by decide) ?_
          refine lv_iadd hx hb dd_M_passing_128 ?_
          refine lv_iload_n hx hb dd_M_passing_129 rfl (lv_at hl 3 rfl) ?_
          refine lv_iadd hx hb dd_M_passing_130 ?_
          refine lv_goto (tgt := 135) hx hb dd_M_passing_131 (by decide) ?_
          exact hJ135 msd mrt mps mqt bd kp kS kR kP kQ x2 ((x1 + 1) + x2) _ _ _ (lv_sub hl [1, 3] rfl) hP hD hS hf
      have hJ118 : ∀ (msd : Int32) (mrt : Int32) (mps : Int32) (mqt : Int32) (bd : Nat → Int32) (kp : Nat → Int32) (kS : Nat → Int32) (kR : Nat → Int32) (kP : Nat → Int32) (kQ : Nat → Int32) (x1 : Int32) (x2 : Int32) (H : Heap) (locs : List Loc) (ls : Array Slot), lv_has ls 7 [(0, .ref oM), (1, .int x1), (2, .int x2)] → va_P (dC, dI) classes [(oM, .inr (5, [.int mth, .int mpl, .ref obd, .int msd, .int mrt, .int mps, .int mqt, .int mmd, .ref opa, .ref opS, .ref opR, .ref opG, .ref opP, .ref opQ, .ref okp, .ref okS, .ref okR, .ref okP, .ref okQ, .ref oli])), (obd, .inl (cI, 64, .inl bd)), (opa, .inl (cI, 9664, .inl pa)), (opS, .inl (cI, 151, .inl pS)), (opR, .inl (cI, 151, .inl pR)), (opG, .inl (cI, 151, .inl pG)), (opP, .inl (cI, 151, .inl pP)), (opQ, .inl (cI, 151, .inl pQ)), (okp, .inl (cI, 256, .inl kp)), (okS, .inl (cI, 4, .inl kS)), (okR, .inl (cI, 4, .inl kR)), (okP, .inl (cI, 4, .inl kP)), (okQ, .inl (cI, 4, .inl kQ)), (oli, .inl (cI, 1320, .inl li))] H → va_D A [(oM, .inr (5, [.int mth, .int mpl, .ref obd, .int msd, .int mrt, .int mps, .int mqt, .int mmd, .ref opa, .ref opS, .ref opR, .ref opG, .ref opP, .ref opQ, .ref okp, .ref okS, .ref okR, .ref okP, .ref okQ, .ref oli])), (obd, .inl (cI, 64, .inl bd)), (opa, .inl (cI, 9664, .inl pa)), (opS, .inl (cI, 151, .inl pS)), (opR, .inl (cI, 151, .inl pR)), (opG, .inl (cI, 151, .inl pG)), (opP, .inl (cI, 151, .inl pP)), (opQ, .inl (cI, 151, .inl pQ)), (okp, .inl (cI, 256, .inl kp)), (okS, .inl (cI, 4, .inl kS)), (okR, .inl (cI, 4, .inl kR)), (okP, .inl (cI, 4, .inl kP)), (okQ, .inl (cI, 4, .inl kQ)), (oli, .inl (cI, 1320, .inl li))] → va_S A s.heap H locs → bk_M_passing_118 (lo_M_passing_4 n4) msd mrt mps mqt bd kp kS kR kP kQ x1 x2 = some (rr, msd', mrt', mps', mqt', bd', kp', kS', kR', kP', kQ') → W p l e rm_M_passing s m ([.ref oM] : List Value).toArray below meth c H locs 0 0 Q (F0 m 118 ls []) := by
        intro msd mrt mps mqt bd kp kS kR kP kQ x1 x2 H locs ls hl hP hD hS hf
        rw [bk_M_passing_118] at hf
        refine lv_iconst (v := 0) hx hb dd_M_passing_118 (by decide) ?_
        exact hJ119 msd mrt mps mqt bd kp kS kR kP kQ x1 x2 0 _ _ _ (lv_sub hl [0, 1, 2] rfl) hP hD hS hf
      have hJ35 : ∀ (msd : Int32) (mrt : Int32) (mps : Int32) (mqt : Int32) (bd : Nat → Int32) (kp : Nat → Int32) (kS : Nat → Int32) (kR : Nat → Int32) (kP : Nat → Int32) (kQ : Nat → Int32) (x1 : Int32) (x2 : Int32) (s0 : Int32) (H : Heap) (locs : List Loc) (ls : Array Slot), lv_has ls 7 [(0, .ref oM), (1, .int x1), (2, .int x2)] → va_P (dC, dI) classes [(oM, .inr (5, [.int mth, .int mpl, .ref obd, .int msd, .int mrt, .int mps, .int mqt, .int mmd, .ref opa, .ref opS, .ref opR, .ref opG, .ref opP, .ref opQ, .ref okp, .ref okS, .ref okR, .ref okP, .ref okQ, .ref oli])), (obd, .inl (cI, 64, .inl bd)), (opa, .inl (cI, 9664, .inl pa)), (opS, .inl (cI, 151, .inl pS)), (opR, .inl (cI, 151, .inl pR)), (opG, .inl (cI, 151, .inl pG)), (opP, .inl (cI, 151, .inl pP)), (opQ, .inl (cI, 151, .inl pQ)), (okp, .inl (cI, 256, .inl kp)), (okS, .inl (cI, 4, .inl kS)), (okR, .inl (cI, 4, .inl kR)), (okP, .inl (cI, 4, .inl kP)), (okQ, .inl (cI, 4, .inl kQ)), (oli, .inl (cI, 1320, .inl li))] H → va_D A [(oM, .inr (5, [.int mth, .int mpl, .ref obd, .int msd, .int mrt, .int mps, .int mqt, .int mmd, .ref opa, .ref opS, .ref opR, .ref opG, .ref opP, .ref opQ, .ref okp, .ref okS, .ref okR, .ref okP, .ref okQ, .ref oli])), (obd, .inl (cI, 64, .inl bd)), (opa, .inl (cI, 9664, .inl pa)), (opS, .inl (cI, 151, .inl pS)), (opR, .inl (cI, 151, .inl pR)), (opG, .inl (cI, 151, .inl pG)), (opP, .inl (cI, 151, .inl pP)), (opQ, .inl (cI, 151, .inl pQ)), (okp, .inl (cI, 256, .inl kp)), (okS, .inl (cI, 4, .inl kS)), (okR, .inl (cI, 4, .inl kR)), (okP, .inl (cI, 4, .inl kP)), (okQ, .inl (cI, 4, .inl kQ)), (oli, .inl (cI, 1320, .inl li))] → va_S A s.heap H locs → bk_M_passing_35 (lo_M_passing_4 n4) msd mrt mps mqt bd kp kS kR kP kQ x1 x2 s0 = some (rr, msd', mrt', mps', mqt', bd', kp', kS', kR', kP', kQ') → W p l e rm_M_passing s m ([.ref oM] : List Value).toArray below meth c H locs 0 0 Q (F0 m 35 ls [.int s0]) := by
        intro msd mrt mps mqt bd kp kS kR kP kQ x1 x2 s0 H locs ls hl hP hD hS hf
        rw [bk_M_passing_35] at hf
        refine lv_istore_n (lv' := [(3, .int s0), (0, .ref oM), (1, .int x1), (2, .int x2)]) hx hb dd_M_passing_35 rfl hl (by decide) rfl (fun ls hl => ?_)
        refine lv_bipush (v := 8) hx hb dd_M_passing_36 (by decide) ?_
        refine lv_iconst (v := 4) hx hb dd_M_passing_38 (by decide) ?_
        refine lv_aload_n hx hb dd_M_passing_39 rfl (lv_at hl 1 rfl) ?_
        refine va_get (D := (dC, dI)) (ci := 5) (v := .int msd) (C := RR_M) (T := FF_M) (N := 20) hx hb hts uu_M hown hK hP 0 rfl rfl 3 (by decide) (hts _ mm_228) (fun _ h9 => h9) rfl dd_M_passing_40 ?_
        refine lv_isub hx hb dd_M_passing_43 ?_
        refine lv_imul hx hb dd_M_passing_44 ?_
        refine lv_iload_n hx hb dd_M_passing_45 rfl (lv_at hl 0 rfl) ?_
        refine lv_iadd hx hb dd_M_passing_46 ?_
        refine lv_topi (fun v6001 ev6001 => ?_)
        replace hf := qq_lt ev6001 hf
        refine lv_istore (lv' := [(4, .int v6001), (3, .int s0), (0, .ref oM), (1, .int x1), (2, .int x2)]) hx hb dd_M_passing_47 hl (by decide) rfl (fun ls hl => ?_)
        refine lv_bipush (v := 8) hx hb dd_M_passing_49 (by decide) ?_
        refine lv_iconst (v := 4) hx hb dd_M_passing_51 (by decide) ?_
        refine lv_aload_n hx hb dd_M_passing_52 rfl (lv_at hl 2 rfl) ?_
        refine va_get (D := (dC, dI)) (ci := 5) (v := .int msd) (C := RR_M) (T := FF_M) (N := 20) hx hb hts uu_M hown hK hP 0 rfl rfl 3 (by decide) (hts _ mm_228) (fun _ h9 => h9) rfl dd_M_passing_53 ?_
        refine lv_isub hx hb dd_M_passing_56 ?_
        refine lv_aload_n hx hb dd_M_passing_57 rfl (lv_at hl 2 rfl) ?_
        refine va_get (D := (dC, dI)) (ci := 5) (v := .int msd) (C := RR_M) (T := FF_M) (N := 20) hx hb hts uu_M hown hK hP 0 rfl rfl 3 (by decide) (hts _ mm_228) (fun _ h9 => h9) rfl dd_M_passing_58 ?_
        obtain ⟨r6002, hy6002, hf⟩ := qq_bd hf
        refine qq_S (As := [.int msd]) (rest := [.int (4 - msd), .int 8]) (wr := [(oM, .inr (5, [.int mth, .int mpl, .ref obd, .int msd, .int mrt, .int mps, .int mqt, .int mmd, .ref opa, .ref opS, .ref opR, .ref opG, .ref opP, .ref opQ, .ref okp, .ref okS, .ref okR, .ref okP, .ref okQ, .ref oli])), (obd, .inl (cI, 64, .inl bd)), (opa, .inl (cI, 9664, .inl pa)), (opS, .inl (cI, 151, .inl pS)), (opR, .inl (cI, 151, .inl pR)), (opG, .inl (cI, 151, .inl pG)), (opP, .inl (cI, 151, .inl pP)), (opQ, .inl (cI, 151, .inl pQ)), (okp, .inl (cI, 256, .inl kp)), (okS, .inl (cI, 4, .inl kS)), (okR, .inl (cI, 4, .inl kR)), (okP, .inl (cI, 4, .inl kP)), (okQ, .inl (cI, 4, .inl kQ)), (oli, .inl (cI, 1320, .inl li))]) (wf := [(oM, .inr (5, [.int mth, .int mpl, .ref obd, .int msd, .int mrt, .int mps, .int mqt, .int mmd, .ref opa, .ref opS, .ref opR, .ref opG, .ref opP, .ref opQ, .ref okp, .ref okS, .ref okR, .ref okP, .ref okQ, .ref oli])), (obd, .inl (cI, 64, .inl bd)), (opa, .inl (cI, 9664, .inl pa)), (opS, .inl (cI, 151, .inl pS)), (opR, .inl (cI, 151, .inl pR)), (opG, .inl (cI, 151, .inl pG)), (opP, .inl (cI, 151, .inl pP)), (opQ, .inl (cI, 151, .inl pQ)), (okp, .inl (cI, 256, .inl kp)), (okS, .inl (cI, 4, .inl kS)), (okR, .inl (cI, 4, .inl kR)), (okP, .inl (cI, 4, .inl kP)), (okQ, .inl (cI, 4, .inl kQ)), (oli, .inl (cI, 1320, .inl li))]) ⟨hx, hb, hml, hown, hts⟩ (ct_M_ahead l dC dI cI cL cR msd hy6002) mm_219 mm_220 mm_218 mm_211 hd_M_ahead (by decide) qq_00 hP hD hK hS hA hT hN [] [0, 1, 2, 3, 4, 5, 6, 7, 8, 9, 10, 11, 12, 13] [0, 1, 2, 3, 4, 5, 6, 7, 8, 9, 10, 11, 12, 13] rfl rfl rfl (by decide) rfl hl.1 rfl (Nat.le_of_ble_eq_true rfl) dd_M_passing_61 (fun H locs hP hD hS => ?_)
        refine W.eq (g2 := F0 m 64 ls [.int r6002, .int (4 - msd), .int 8]) rfl ?_
        refine lv_iadd hx hb dd_M_passing_64 ?_
        refine lv_imul hx hb dd_M_passing_65 ?_
        refine lv_aload_n hx hb dd_M_passing_66 rfl (lv_at hl 2 rfl) ?_
        refine va_get (D := (dC, dI)) (ci := 5) (v := .int mps) (C := RR_M) (T := FF_M) (N := 20) hx hb hts uu_M hown hK hP 0 rfl rfl 5 (by decide) (hts _ mm_227) (fun _ h9 => h9) rfl dd_M_passing_67 ?_
        refine lv_iadd hx hb dd_M_passing_70 ?_
        refine lv_topi (fun v6003 ev6003 => ?_)
        replace hf := qq_lt ev6003 hf
        refine lv_istore (lv' := [(5, .int v6003), (4, .int v6001), (3, .int s0), (0, .ref oM), (1, .int x1), (2, .int x2)]) hx hb dd_M_passing_71 hl (by decide) rfl (fun ls hl => ?_)
        refine lv_iload_n hx hb dd_M_passing_73 rfl (lv_at hl 2 rfl) ?_
        refine lv_iconst (v := 0) hx hb dd_M_passing_74 (by decide) ?_
        refine lv_bipush (v := 7) hx hb dd_M_passing_75 (by decide) ?_
        obtain ⟨r6004, hy6004, hf⟩ := qq_bd hf
        refine qq_S (As := [.int s0, .int 0, .int 7]) (rest := []) (wr := [(oM, .inr (5, [.int mth, .int mpl, .ref obd, .int msd, .int mrt, .int mps, .int mqt, .int mmd, .ref opa, .ref opS, .ref opR, .ref opG, .ref opP, .ref opQ, .ref okp, .ref okS, .ref okR, .ref okP, .ref okQ, .ref oli])), (obd, .inl (cI, 64, .inl bd)), (opa, .inl (cI, 9664, .inl pa)), (opS, .inl (cI, 151, .inl pS)), (opR, .inl (cI, 151, .inl pR)), (opG, .inl (cI, 151, .inl pG)), (opP, .inl (cI, 151, .inl pP)), (opQ, .inl (cI, 151, .inl pQ)), (okp, .inl (cI, 256, .inl kp)), (okS, .inl (cI, 4, .inl kS)), (okR, .inl (cI, 4, .inl kR)), (okP, .inl (cI, 4, .inl kP)), (okQ, .inl (cI, 4, .inl kQ)), (oli, .inl (cI, 1320, .inl li))]) (wf := [(oM, .inr (5, [.int mth, .int mpl, .ref obd, .int msd, .int mrt, .int mps, .int mqt, .int mmd, .ref opa, .ref opS, .ref opR, .ref opG, .ref opP, .ref opQ, .ref okp, .ref okS, .ref okR, .ref okP, .ref okQ, .ref oli])), (obd, .inl (cI, 64, .inl bd)), (opa, .inl (cI, 9664, .inl pa)), (opS, .inl (cI, 151, .inl pS)), (opR, .inl (cI, 151, .inl pR)), (opG, .inl (cI, 151, .inl pG)), (opP, .inl (cI, 151, .inl pP)), (opQ, .inl (cI, 151, .inl pQ)), (okp, .inl (cI, 256, .inl kp)), (okS, .inl (cI, 4, .inl kS)), (okR, .inl (cI, 4, .inl kR)), (okP, .inl (cI, 4, .inl kP)), (okQ, .inl (cI, 4, .inl kQ)), (oli, .inl (cI, 1320, .inl li))]) ⟨hx, hb, hml, hown, hts⟩ (ct_M_outside l dC dI cI cL cR s0 0 7 hy6004) mm_238 mm_239 mm_237 mm_211 hd_M_outside (by decide) qq_00 hP hD hK hS hA hT hN [] [0, 1, 2, 3, 4, 5, 6, 7, 8, 9, 10, 11, 12, 13] [0, 1, 2, 3, 4, 5, 6, 7, 8, 9, 10, 11, 12, 13] rfl rfl rfl (by decide) rfl hl.1 rfl (Nat.le_of_ble_eq_true rfl) dd_M_passing_77 (fun H locs hP hD hS => ?_)
        refine W.eq (g2 := F0 m 80 ls [.int r6004]) rfl ?_
        refine lv_if_ne (tgt := 118) hx hb dd_M_passing_80 (by decide) (fun hc => ?_) (fun hc => ?_)
        · replace hf := qq_f hc hf
          exact hJ118 msd mrt mps mqt bd kp kS kR kP kQ x1 x2 _ _ _ (lv_sub hl [3, 4, 5] rfl) hP hD hS hf
        · replace hf := qq_t hc hf
          refine lv_aload_n hx hb dd_M_passing_83 rfl (lv_at hl 3 rfl) ?_
          refine va_get (D := (dC, dI)) (ci := 5) (v := .ref obd) (C := RR_M) (T := FF_M) (N := 20) hx hb hts uu_M hown hK hP 0 rfl rfl 2 (by decide) (hts _ mm_209) (fun _ h9 => h9) rfl dd_M_passing_84 ?_
          refine lv_iload hx hb dd_M_passing_87 (lv_at hl 1 rfl) ?_
          obtain ⟨hi6005, hf⟩ := qq_ckE hf
          refine va_iald (D := (dC, dI)) (f := bd) (n := 64) (cA := cI) hx hb hK hP 1 0 rfl rfl (qq_inE hi6005) dd_M_passing_89 ?_
          refine lv_iconst (v := 1) hx hb dd_M_passing_90 (by decide) ?_
          refine lv_bipush (v := 6) hx hb dd_M_passing_91 (by decide) ?_
          refine lv_aload_n hx hb dd_M_passing_93 rfl (lv_at hl 3 rfl) ?_
          refine va_get (D := (dC, dI)) (ci := 5) (v := .int msd) (C := RR_M) (T := FF_M) (N := 20) hx hb hts uu_M hown hK hP 0 rfl rfl 3 (by decide) (hts _ mm_228) (fun _ h9 => h9) rfl dd_M_passing_94 ?_
          refine lv_imul hx hb dd_M_passing_97 ?_
          refine lv_iadd hx hb dd_M_passing_98 ?_
          refine lv_icmp_ne (tgt := 118) hx hb dd_M_passing_99 (by decide) (fun hc => ?_) (fun hc => ?_)
          · replace hf := qq_f hc hf
            exact hJ118 msd mrt mps mqt bd kp kS kR kP kQ x1 x2 _ _ _ (lv_sub hl [3, 4, 5] rfl) hP hD hS hf
          · replace hf := qq_t hc hf
            refine lv_aload_n hx hb dd_M_passing_102 rfl (lv_at hl 3 rfl) ?_
            refine lv_iload hx hb dd_M_passing_103 (lv_at hl 1 rfl) ?_
            refine lv_iload hx hb dd_M_passing_105 (lv_at hl 0 rfl) ?_
            refine lv_iconst (v := 0) hx hb dd_M_passing_107 (by decide) ?_
            obtain ⟨⟨r6006, msd_6007, mrt_6008, mps_6009, mqt_6010, bd_6011, kp_6012, kS_6013, kR_6014, kP_6015, kQ_6016⟩, hy6016, hf⟩ := qq_bd hf
            dsimp only at hf
            refine qq_V (As := [.int v6001, .int v6003, .int 0]) (rest := []) (wr := []) (wf := [(oM, .inr (5, [.int mth, .int mpl, .ref obd, .int msd_6007, .int mrt_6008, .int mps_6009, .int mqt_6010, .int mmd, .ref opa, .ref opS, .ref opR, .ref opG, .ref opP, .ref opQ, .ref okp, .ref okS, .ref okR, .ref okP, .ref okQ, .ref oli])), (obd, .inl (cI, 64, .inl bd_6011)), (opa, .inl (cI, 9664, .inl pa)), (opS, .inl (cI, 151, .inl pS)), (opR, .inl (cI, 151, .inl pR)), (opG, .inl (cI, 151, .inl pG)), (opP, .inl (cI, 151, .inl pP)), (opQ, .inl (cI, 151, .inl pQ)), (okp, .inl (cI, 256, .inl kp_6012)), (okS, .inl (cI, 4, .inl kS_6013)), (okR, .inl (cI, 4, .inl kR_6014)), (okP, .inl (cI, 4, .inl kP_6015)), (okQ, .inl (cI, 4, .inl kQ_6016)), (oli, .inl (cI, 1320, .inl li))]) ⟨hx, hb, hml, hown, hts⟩ (ct_M_isMove l dC dI cI cL cR oM obd opa opS opR opG opP opQ okp okS okR okP okQ oli mth mpl msd mrt mps mqt mmd bd pa pS pR pG pP pQ kp kS kR kP kQ li v6001 v6003 0 hy6016) mm_290 mm_291 mm_292 mm_289 mm_211 hd_M_isMove (by decide) qq_00 hP hD hK hS hA hT hN (q0 := 0) (ci := 5) rfl rfl [0, 1, 2, 3, 4, 5, 6, 7, 8, 9, 10, 11, 12, 13] [] [0, 1, 2, 3, 4, 5, 6, 7, 8, 9, 10, 11, 12, 13] rfl rfl rfl (by decide) rfl hl.1 rfl (Nat.le_of_ble_eq_true rfl) dd_M_passing_108 (fun H locs hP hD hS => ?_)
            refine W.eq (g2 := F0 m 111 ls [.int r6006]) rfl ?_
            refine lv_if_eq (tgt := 118) hx hb dd_M_passing_111 (by decide) (fun hc => ?_) (fun hc => ?_)
            · replace hf := qq_t hc hf
              exact hJ118 msd_6007 mrt_6008 mps_6009 mqt_6010 bd_6011 kp_6012 kS_6013 kR_6014 kP_6015 kQ_6016 x1 x2 _ _ _ (lv_sub hl [3, 4, 5] rfl) hP hD hS hf
            · replace hf := qq_f hc hf
              refine lv_iconst (v := 1) hx hb dd_M_passing_114 (by decide) ?_
              refine lv_goto (tgt := 119) hx hb dd_M_passing_115 (by decide) ?_
              exact hJ119 msd_6007 mrt_6008 mps_6009 mqt_6010 bd_6011 kp_6012 kS_6013 kR_6014 kP_6015 kQ_6016 x1 x2 1 _ _ _ (lv_sub hl [3, 4, 5] rfl) hP hD hS hf
      intro msd mrt mps mqt bd kp kS kR kP kQ x1 x2 H locs ls hl hP hD hS hf
      rw [lo_M_passing_4_s] at hf
      refine lv_iload_n hx hb dd_M_passing_4 rfl (lv_at hl 2 rfl) ?_
      refine lv_iconst (v := 2) hx hb dd_M_passing_5 (by decide) ?_
      refine lv_icmp_ge (tgt := 142) hx hb dd_M_passing_6 (by decide) (fun hc => ?_) (fun hc => ?_)
      · replace hf := qq_t hc hf
        exact hJ142 msd mrt mps mqt bd kp kS kR kP kQ x1 _ _ _ (lv_sub hl [0, 1] rfl) hP hD hS hf
      · replace hf := qq_f hc hf
        refine lv_aload_n hx hb dd_M_passing_9 rfl (lv_at hl 0 rfl) ?_
        refine va_get (D := (dC, dI)) (ci := 5) (v := .int mps) (C := RR_M) (T := FF_M) (N := 20) hx hb hts uu_M hown hK hP 0 rfl rfl 5 (by decide) (hts _ mm_227) (fun _ h9 => h9) rfl dd_M_passing_10 ?_
        refine lv_if_lt (tgt := 142) hx hb dd_M_passing_13 (by decide) (fun hc => ?_) (fun hc => ?_)
        · replace hf := qq_t hc hf
          exact hJ142 msd mrt mps mqt bd kp kS kR kP kQ x1 _ _ _ (lv_sub hl [0, 1] rfl) hP hD hS hf
        · replace hf := qq_f hc hf
          refine lv_iload_n hx hb dd_M_passing_16 rfl (lv_at hl 2 rfl) ?_
          refine lv_if_ne (tgt := 29) hx hb dd_M_passing_17 (by decide) (fun hc => ?_) (fun hc => ?_)
          · replace hf := qq_f hc hf
            refine lv_aload_n hx hb dd_M_passing_29 rfl (lv_at hl 0 rfl) ?_
            refine va_get (D := (dC, dI)) (ci := 5) (v := .int mps) (C := RR_M) (T := FF_M) (N := 20) hx hb hts uu_M hown hK hP 0 rfl rfl 5 (by decide) (hts _ mm_227) (fun _ h9 => h9) rfl dd_M_passing_30 ?_
            refine lv_iconst (v := 1) hx hb dd_M_passing_33 (by decide) ?_
            refine lv_iadd hx hb dd_M_passing_34 ?_
            exact hJ35 msd mrt mps mqt bd kp kS kR kP kQ x1 x2 (mps + 1) _ _ _ (lv_sub hl [0, 1, 2] rfl) hP hD hS hf
          · replace hf := qq_t hc hf
            refine lv_aload_n hx hb dd_M_passing_20 rfl (lv_at hl 0 rfl) ?_
            refine va_get (D := (dC, dI)) (ci := 5) (v := .int mps) (C := RR_M) (T := FF_M) (N := 20) hx hb hts uu_M hown hK hP 0 rfl rfl 5 (by decide) (hts _ mm_227) (fun _ h9 => h9) rfl dd_M_passing_21 ?_
            refine lv_iconst (v := 1) hx hb dd_M_passing_24 (by decide) ?_
            refine lv_isub hx hb dd_M_passing_25 ?_
            refine lv_goto (tgt := 35) hx hb dd_M_passing_26 (by decide) ?_
            exact hJ35 msd mrt mps mqt bd kp kS kR kP kQ x1 x2 (mps - 1) _ _ _ (lv_sub hl [0, 1, 2] rfl) hP hD hS hf
  rw [fn_M_passing] at hf
  refine lv_iconst (v := 0) hx hb dd_M_passing_0 (by decide) ?_
  refine lv_istore_n (lv' := [(1, .int 0), (0, .ref oM)]) hx hb dd_M_passing_1 rfl hl (by decide) rfl (fun ls hl => ?_)
  refine lv_iconst (v := 0) hx hb dd_M_passing_2 (by decide) ?_
  refine lv_istore_n (lv' := [(2, .int 0), (1, .int 0), (0, .ref oM)]) hx hb dd_M_passing_3 rfl hl (by decide) rfl (fun ls hl => ?_)
  exact hL4 qq_FU msd mrt mps mqt bd kp kS kR kP kQ 0 0 _ _ _ (lv_sub hl [2, 1, 0] rfl) hP hD hS hf
