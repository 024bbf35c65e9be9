theorem dd_M_size_0 : decode bb_M_size 0 = .ok (.iload_n 0, 1) := by decide +kernel
theorem dd_M_size_1 : decode bb_M_size 1 = .ok (.ifCond .ge 8, 3) := by decide +kernel
theorem dd_M_size_4 : decode bb_M_size 4 = .ok (.iload_n 0, 1) := by decide +kernel
theorem dd_M_size_5 : decode bb_M_size 5 = .ok (.ineg, 1) := by decide +kernel
theorem dd_M_size_6 : decode bb_M_size 6 = .ok (.goto 4, 3) := by decide +kernel
theorem dd_M_size_9 : decode bb_M_size 9 = .ok (.iload_n 0, 1) := by decide +kernel
theorem dd_M_size_10 : decode bb_M_size 10 = .ok (.ireturn, 1) := by decide +kernel
abbrev ty_M_size : Type := Int32
noncomputable def bk_M_size_10 (a0 : Int32) (s0 : Int32) : Option ty_M_size := some s0
noncomputable def fn_M_size (a0 : Int32) : Option ty_M_size := if 0 ≤ a0 then (bk_M_size_10 a0 a0) else (bk_M_size_10 a0 (-a0))
abbrev rm_M_size : Room := { frames := 0, cells := 0, slots := 0, locals := 0 }
set_option maxHeartbeats 4000000 in
set_option maxRecDepth 100000 in
theorem ct_M_size (l : Launch) (dC : Nat → ClassId) (dI : Nat → Nat → Nat) (cI cL cR : ClassId) (a0 : Int32) {rr : Int32} (hf : fn_M_size a0 = some rr) : qq_det l yy_M_size (ww_of yy_M_size bb_M_size 1 (some .int)) rm_M_size (dC, dI) (qq_ty cI cL cR) [.int a0] [] (some (.int rr)) [] := by
  refine qq_of (own := RR_M) (by decide) rfl (Nat.le_of_ble_eq_true rfl) ?_
  intro p e s m below meth c A Q ls hx hb hml hr hlocks hown hts hK hA hT hN hP hD hS hl hQ
  have hl : lv_has ls 1 [(0, .int a0)] := hl
  have hJ10 : ∀ (s0 : Int32) (H : Heap) (locs : List Loc) (ls : Array Slot), lv_has ls 1 [] → va_P (dC, dI) classes [] H → va_D A [] → va_S A s.heap H locs → bk_M_size_10 a0 s0 = some rr → W p l e rm_M_size s m ([.int a0] : List Value).toArray below meth c H locs 0 0 Q (F0 m 10 ls [.int s0]) := by
    intro s0 H locs ls hl hP hD hS hf
    rw [bk_M_size_10] at hf
    cases hf
    exact qq_iret hx hb hr hlocks hQ hP hD hK hS dd_M_size_10
  rw [fn_M_size] at hf
  refine lv_iload_n hx hb dd_M_size_0 rfl (lv_at hl 0 rfl) ?_
  refine lv_if_ge (tgt := 9) hx hb dd_M_size_1 (by decide) (fun hc => ?_) (fun hc => ?_)
  · replace hf := qq_t hc hf
    refine lv_iload_n hx hb dd_M_size_9 rfl (lv_at hl 0 rfl) ?_
    exact hJ10 a0 _ _ _ (lv_sub hl [] rfl) hP hD hS hf
  · replace hf := qq_f hc hf
    refine lv_iload_n hx hb dd_M_size_4 rfl (lv_at hl 0 rfl) ?_
    refine lv_ineg hx hb dd_M_size_5 ?_
    refine lv_goto (tgt := 10) hx hb dd_M_size_6 (by decide) ?_
    exact hJ10 (-a0) _ _ _ (lv_sub hl [] rfl) hP hD hS hf
theorem dd_M_sign_0 : decode bb_M_sign 0 = .ok (.iload_n 0, 1) := by decide +kernel
theorem dd_M_sign_1 : decode bb_M_sign 1 = .ok (.ifCond .ge 7, 3) := by decide +kernel
theorem dd_M_sign_4 : decode bb_M_sign 4 = .ok (.iconst (-1), 1) := by decide +kernel
theorem dd_M_sign_5 : decode bb_M_sign 5 = .ok (.goto 12, 3) := by decide +kernel
theorem dd_M_sign_8 : decode bb_M_sign 8 = .ok (.iload_n 0, 1) := by decide +kernel
theorem dd_M_sign_9 : decode bb_M_sign 9 = .ok (.ifCond .le 7, 3) := by decide +kernel
theorem dd_M_sign_12 : decode bb_M_sign 12 = .ok (.iconst 1, 1) := by decide +kernel
theorem dd_M_sign_13 : decode bb_M_sign 13 = .ok (.goto 4, 3) := by decide +kernel
theorem dd_M_sign_16 : decode bb_M_sign 16 = .ok (.iconst 0, 1) := by decide +kernel
theorem dd_M_sign_17 : decode bb_M_sign 17 = .ok (.ireturn, 1) := by decide +kernel
abbrev ty_M_sign : Type := Int32
noncomputable def bk_M_sign_17 (a0 : Int32) (s0 : Int32) : Option ty_M_sign := some s0
noncomputable def fn_M_sign (a0 : Int32) : Option ty_M_sign := if 0 ≤ a0 then (if a0 ≤ 0 then (bk_M_sign_17 a0 0) else (bk_M_sign_17 a0 1)) else (bk_M_sign_17 a0 (-1))
abbrev rm_M_sign : Room := { frames := 0, cells := 0, slots := 0, locals := 0 }
set_option maxHeartbeats 4000000 in
set_option maxRecDepth 100000 in
theorem ct_M_sign (l : Launch) (dC : Nat → ClassId) (dI : Nat → Nat → Nat) (cI cL cR : ClassId) (a0 : Int32) {rr : Int32} (hf : fn_M_sign a0 = some rr) : qq_det l yy_M_sign (ww_of yy_M_sign bb_M_sign 1 (some .int)) rm_M_sign (dC, dI) (qq_ty cI cL cR) [.int a0] [] (some (.int rr)) [] := by
  refine qq_of (own := RR_M) (by decide) rfl (Nat.le_of_ble_eq_true rfl) ?_
  intro p e s m below meth c A Q ls hx hb hml hr hlocks hown hts hK hA hT hN hP hD hS hl hQ
  have hl : lv_has ls 1 [(0, .int a0)] := hl
  have hJ17 : ∀ (s0 : Int32) (H : Heap) (locs : List Loc) (ls : Array Slot), lv_has ls 1 [] → va_P (dC, dI) classes [] H → va_D A [] → va_S A s.heap H locs → bk_M_sign_17 a0 s0 = some rr → W p l e rm_M_sign s m ([.int a0] : List Value).toArray below meth c H locs 0 0 Q (F0 m 17 ls [.int s0]) := by
    intro s0 H locs ls hl hP hD hS hf
    rw [bk_M_sign_17] at hf
    cases hf
    exact qq_iret hx hb hr hlocks hQ hP hD hK hS dd_M_sign_17
  rw [fn_M_sign] at hf
  refine lv_iload_n hx hb dd_M_sign_0 rfl (lv_at hl 0 rfl) ?_
  refine lv_if_ge (tgt := 8) hx hb dd_M_sign_1 (by decide) (fun hc => ?_) (fun hc => ?_)
  · replace hf := qq_t hc hf
    refine lv_iload_n hx hb dd_M_sign_8 rfl (lv_at hl 0 rfl) ?_
    refine lv_if_le (tgt := 16) hx hb dd_M_sign_9 (by decide) (fun hc => ?_) (fun hc => ?_)
    · replace hf := qq_t hc hf
      refine lv_iconst (v := 0) hx hb dd_M_sign_16 (by decide) ?_
      exact hJ17 0 _ _ _ (lv_sub hl [] rfl) hP hD hS hf
    · replace hf := qq_f hc hf
      refine lv_iconst (v := 1) hx hb dd_M_sign_12 (by decide) ?_
      refine lv_goto (tgt := 17) hx hb dd_M_sign_13 (by decide) ?_
      exact hJ17 1 _ _ _ (lv_sub hl [] rfl) hP hD hS hf
  · replace hf := qq_f hc hf
    refine lv_iconst (v := (-1)) hx hb dd_M_sign_4 (by decide) ?_
    refine lv_goto (tgt := 17) hx hb dd_M_sign_5 (by decide) ?_
    exact hJ17 (-1) _ _ _ (lv_sub hl [] rfl) hP hD hS hf
theorem dd_M_free_0 : decode bb_M_free 0 = .ok (.bipush 8, 2) := by decide +kernel
theorem dd_M_free_2 : decode bb_M_free 2 = .ok (.iload_n 2, 1) := by decide +kernel
theorem dd_M_free_3 : decode bb_M_free 3 = .ok (.bipush 8, 2) := by decide +kernel
theorem dd_M_free_5 : decode bb_M_free 5 = .ok (.idiv, 1) := by decide +kernel
theorem dd_M_free_6 : decode bb_M_free 6 = .ok (.iload_n 1, 1) := by decide +kernel
theorem dd_M_free_7 : decode bb_M_free 7 = .ok (.bipush 8, 2) := by decide +kernel
theorem dd_M_free_9 : decode bb_M_free 9 = .ok (.idiv, 1) := by decide +kernel
theorem dd_M_free_10 : decode bb_M_free 10 = .ok (.isub, 1) := by decide +kernel
theorem dd_M_free_11 : decode bb_M_free 11 = .ok (.invokestatic 66, 3) := by decide +kernel
theorem dd_M_free_14 : decode bb_M_free 14 = .ok (.imul, 1) := by decide +kernel
theorem dd_M_free_15 : decode bb_M_free 15 = .ok (.iload_n 2, 1) := by decide +kernel
theorem dd_M_free_16 : decode bb_M_free 16 = .ok (.bipush 8, 2) := by decide +kernel
theorem dd_M_free_18 : decode bb_M_free 18 = .ok (.irem, 1) := by decide +kernel
theorem dd_M_free_19 : decode bb_M_free 19 = .ok (.iload_n 1, 1) := by decide +kernel
theorem dd_M_free_20 : decode bb_M_free 20 = .ok (.bipush 8, 2) := by decide +kernel
theorem dd_M_free_22 : decode bb_M_free 22 = .ok (.irem, 1) := by decide +kernel
theorem dd_M_free_23 : decode bb_M_free 23 = .ok (.isub, 1) := by decide +kernel
theorem dd_M_free_24 : decode bb_M_free 24 = .ok (.invokestatic 66, 3) := by decide +kernel
theorem dd_M_free_27 : decode bb_M_free 27 = .ok (.iadd, 1) := by decide +kernel
theorem dd_M_free_28 : decode bb_M_free 28 = .ok (.istore_n 3, 1) := by decide +kernel
theorem dd_M_free_29 : decode bb_M_free 29 = .ok (.iload_n 1, 1) := by decide +kernel
theorem dd_M_free_30 : decode bb_M_free 30 = .ok (.iload_n 3, 1) := by decide +kernel
theorem dd_M_free_31 : decode bb_M_free 31 = .ok (.iadd, 1) := by decide +kernel
theorem dd_M_free_32 : decode bb_M_free 32 = .ok (.istore 4, 2) := by decide +kernel
theorem dd_M_free_34 : decode bb_M_free 34 = .ok (.iload 4, 2) := by decide +kernel
theorem dd_M_free_36 : decode bb_M_free 36 = .ok (.iload_n 2, 1) := by decide +kernel
theorem dd_M_free_37 : decode bb_M_free 37 = .ok (.if_icmp .eq 22, 3) := by decide +kernel
theorem dd_M_free_40 : decode bb_M_free 40 = .ok (.aload_n 0, 1) := by decide +kernel
theorem dd_M_free_41 : decode bb_M_free 41 = .ok (.getfield 7, 3) := by decide +kernel
theorem dd_M_free_44 : decode bb_M_free 44 = .ok (.iload 4, 2) := by decide +kernel
theorem dd_M_free_46 : decode bb_M_free 46 = .ok (.iaload, 1) := by decide +kernel
theorem dd_M_free_47 : decode bb_M_free 47 = .ok (.ifCond .ne 12, 3) := by decide +kernel
theorem dd_M_free_50 : decode bb_M_free 50 = .ok (.iload 4, 2) := by decide +kernel
theorem dd_M_free_52 : decode bb_M_free 52 = .ok (.iload_n 3, 1) := by decide +kernel
theorem dd_M_free_53 : decode bb_M_free 53 = .ok (.iadd, 1) := by decide +kernel
theorem dd_M_free_54 : decode bb_M_free 54 = .ok (.istore 4, 2) := by decide +kernel
theorem dd_M_free_56 : decode bb_M_free 56 = .ok (.goto (-22), 3) := by decide +kernel
theorem dd_M_free_59 : decode bb_M_free 59 = .ok (.iload 4, 2) := by decide +kernel
theorem dd_M_free_61 : decode bb_M_free 61 = .ok (.iload_n 2, 1) := by decide +kernel
theorem dd_M_free_62 : decode bb_M_free 62 = .ok (.if_icmp .ne 7, 3) := by decide +kernel
theorem dd_M_free_65 : decode bb_M_free 65 = .ok (.iconst 1, 1) := by decide +kernel
theorem dd_M_free_66 : decode bb_M_free 66 = .ok (.goto 4, 3) := by decide +kernel
theorem dd_M_free_69 : decode bb_M_free 69 = .ok (.iconst 0, 1) := by decide +kernel
theorem dd_M_free_70 : decode bb_M_free 70 = .ok (.ireturn, 1) := by decide +kernel
abbrev ty_M_free : Type := Int32
noncomputable def bk_M_free_70 (bd : Nat → Int32) (a1 : Int32) (a2 : Int32) (s0 : Int32) : Option ty_M_free := qq_ck (qq_b s0) <| some s0
noncomputable def bk_M_free_59 (bd : Nat → Int32) (a1 : Int32) (a2 : Int32) (x4 : Int32) : Option ty_M_free := if x4 = a2 then (bk_M_free_70 bd a1 a2 1) else (bk_M_free_70 bd a1 a2 0)
noncomputable def lo_M_free_34 (bd : Nat → Int32) (a1 : Int32) (a2 : Int32) : Nat → Int32 → Int32 → Option ty_M_free
  | 0, _, _ => none
  | n + 1, x3, x4 => if x4 = a2 then (bk_M_free_59 bd a1 a2 x4) else (qq_ck (qq_in x4 64) <| if (bd x4.toNatClampNeg) = 0 then (qq_let (x4 + x3) fun v3002 => (lo_M_free_34 bd a1 a2 n) x3 v3002) else (bk_M_free_59 bd a1 a2 x4))
theorem lo_M_free_34_z (bd : Nat → Int32) (a1 : Int32) (a2 : Int32) (x3 : Int32) (x4 : Int32) : lo_M_free_34 bd a1 a2 0 x3 x4 = none := rfl
theorem lo_M_free_34_s (bd : Nat → Int32) (a1 : Int32) (a2 : Int32) (x3 : Int32) (x4 : Int32) (n : Nat) : lo_M_free_34 bd a1 a2 (n + 1) x3 x4 = (if x4 = a2 then (bk_M_free_59 bd a1 a2 x4) else (qq_ck (qq_in x4 64) <| if (bd x4.toNatClampNeg) = 0 then (qq_let (x4 + x3) fun v3002 => (lo_M_free_34 bd a1 a2 n) x3 v3002) else (bk_M_free_59 bd a1 a2 x4))) := rfl
noncomputable def fn_M_free (bd : Nat → Int32) (a1 : Int32) (a2 : Int32) : Option ty_M_free := (fn_M_sign ((a2 / 8) - (a1 / 8))).bind fun r1 => (fn_M_sign ((a2 - a2 / 8 * 8) - (a1 - a1 / 8 * 8))).bind fun r2 => qq_let ((8 * r1) + r2) fun v3 => qq_let (a1 + v3) fun v4 => lo_M_free_34 bd a1 a2 qq_FU v3 v4
abbrev rm_M_free : Room := { frames := 1, cells := 0, slots := 0, locals := 20 }
set_option maxHeartbeats 4000000 in
set_option maxRecDepth 100000 in
theorem ct_M_free (l : Launch) (dC : Nat → ClassId) (dI : Nat → Nat → Nat) (cI cL cR : ClassId) (oM obd opa opS opR opG opP opQ okp okS okR okP okQ oli : Nat) (mth : Int32) (mpl : Int32) (msd : Int32) (mrt : Int32) (mps : Int32) (mqt : Int32) (mmd : Int32) (bd : Nat → Int32) (pa : Nat → Int32) (pS : Nat → Int32) (pR : Nat → Int32) (pG : Nat → Int32) (pP : Nat → Int32) (pQ : Nat → Int32) (kp : Nat → Int32) (kS : Nat → Int32) (kR : Nat → Int32) (kP : Nat → Int32) (kQ : Nat → Int32) (li : Nat → Int32) (a1 : Int32) (a2 : Int32) {rr : Int32} (hf : fn_M_free bd a1 a2 = some rr) : qq_det l yy_M_free (ww_of yy_M_free bb_M_free 5 (some .boolean)) rm_M_free (dC, dI) (qq_ty cI cL cR) [.ref oM, .int a1, .int a2] [(oM, .inr (5, [.int mth, .int mpl, .ref obd, .int msd, .int mrt, .int mps, .int mqt, .int mmd, .ref opa, .ref opS, .ref opR, .ref opG, .ref opP, .ref opQ, .ref okp, .ref okS, .ref okR, .ref okP, .ref okQ, .ref oli])), (obd, .inl (cI, 64, .inl bd)), (opa, .inl (cI, 9664, .inl pa)), (opS, .inl (cI, 151, .inl pS)), (opR, .inl (cI, 151, .inl pR)), (opG, .inl (cI, 151, .inl pG)), (opP, .inl (cI, 151, .inl pP)), (opQ, .inl (cI, 151, .inl pQ)), (okp, .inl (cI, 256, .inl kp)), (okS, .inl (cI, 4, .inl kS)), (okR, .inl (cI, 4, .inl kR)), (okP, .inl (cI, 4, .inl kP)), (okQ, .inl (cI, 4, .inl kQ)), (oli, .inl (cI, 1320, .inl li))] (some (.int rr)) [(oM, .inr (5, [.int mth, .int mpl, .ref obd, .int msd, .int mrt, .int mps, .int mqt, .int mmd, .ref opa, .ref opS, .ref opR, .ref opG, .ref opP, .ref opQ, .ref okp, .ref okS, .ref okR, .ref okP, .ref okQ, .ref oli])), (obd, .inl (cI, 64, .inl bd)), (opa, .inl (cI, 9664, .inl pa)), (opS, .inl (cI, 151, .inl pS)), (opR, .inl (cI, 151, .inl pR)), (opG, .inl (cI, 151, .inl pG)), (opP, .inl (cI, 151, .inl pP)), (opQ, .inl (cI, 151, .inl pQ)), (okp, .inl (cI, 256, .inl kp)), (okS, .inl (cI, 4, .inl kS)), (okR, .inl (cI, 4, .inl kR)), (okP, .inl (cI, 4, .inl kP)), (okQ, .inl (cI, 4, .inl kQ)), (oli, .inl (cI, 1320, .inl li))] := by
  refine qq_of (own := RR_M) (by decide) rfl (Nat.le_of_ble_eq_true rfl) ?_
  intro p e s m below meth c A Q ls hx hb hml hr hlocks hown hts hK hA hT hN hP hD hS hl hQ
  have hl : lv_has ls 5 [(0, .ref oM), (1, .int a1), (2, .int a2)] := hl
  have hJ70 : ∀ (s0 : Int32) (H : Heap) (locs : List Loc) (ls : Array Slot), lv_has ls 5 [] → va_P (dC, dI) classes [(oM, .inr (5, [.int mth, .int mpl, .ref obd, .int msd, .int mrt, .int mps, .int mqt, .int mmd, .ref opa, .ref opS, .ref opR, .ref opG, .ref opP, .ref opQ, .ref okp, .ref okS, .ref okR, .ref okP, .ref okQ, .ref oli])), (obd, .inl (cI, 64, .inl bd)), (opa, .inl (cI, 9664, .inl pa)), (opS, .inl (cI, 151, .inl pS)), (opR, .inl (cI, 151, .inl pR)), (opG, .inl (cI, 151, .inl pG)), (opP, .inl (cI, 151, .inl pP)), (opQ, .inl (cI, 151, .inl pQ)), (okp, .inl (cI, 256, .inl kp)), (okS, .inl (cI, 4, .inl kS)), (okR, .inl (cI, 4, .inl kR)), (okP, .inl (cI, 4, .inl kP)), (okQ, .inl (cI, 4, .inl kQ)), (oli, .inl (cI, 1320, .inl li))] H → va_D A [(oM, .inr (5, [.int mth, .int mpl, .ref obd, .int msd, .int mrt, .int mps, .int mqt, .int mmd, .ref opa, .ref opS, .ref opR, .ref opG, .ref opP, .ref opQ, .ref okp, .ref okS, .ref okR, .ref okP, .ref okQ, .ref oli])), (obd, .inl (cI, 64, .inl bd)), (opa, .inl (cI, 9664, .inl pa)), (opS, .inl (cI, 151, .inl pS)), (opR, .inl (cI, 151, .inl pR)), (opG, .inl (cI, 151, .inl pG)), (opP, .inl (cI, 151, .inl pP)), (opQ, .inl (cI, 151, .inl pQ)), (okp, .inl (cI, 256, .inl kp)), (okS, .inl (cI, 4, .inl kS)), (okR, .inl (cI, 4, .inl kR)), (okP, .inl (cI, 4, .inl kP)), (okQ, .inl (cI, 4, .inl kQ)), (oli, .inl (cI, 1320, .inl li))] → va_S A s.heap H locs → bk_M_free_70 bd a1 a2 s0 = some rr → W p l e rm_M_free s m ([.ref oM, .int a1, .int a2] : List Value).toArray below meth c H locs 0 0 Q (F0 m 70 ls [.int s0]) := by
    intro s0 H locs ls hl hP hD hS hf
    rw [bk_M_free_70] at hf
    obtain ⟨hzb, hf⟩ := qq_ckE hf
    cases hf
    exact qq_zret hx hb hr (qq_bE hzb) hlocks hQ hP hD hK hS dd_M_free_70
  have hJ59 : ∀ (x4 : Int32) (H : Heap) (locs : List Loc) (ls : Array Slot), lv_has ls 5 [(2, .int a2), (4, .int x4)] → va_P (dC, dI) classes [(oM, .inr (5, [.int mth, .int mpl, .ref obd, .int msd, .int mrt, .int mps, .int mqt, .int mmd, .ref opa, .ref opS, .ref opR, .ref opG, .ref opP, .ref opQ, .ref okp, .ref okS, .ref okR, .ref okP, .ref okQ, .ref oli])), (obd, .inl (cI, 64, .inl bd)), (opa, .inl (cI, 9664, .inl pa)), (opS, .inl (cI, 151, .inl pS)), (opR, .inl (cI, 151, .inl pR)), (opG, .inl (cI, 151, .inl pG)), (opP, .inl (cI, 151, .inl pP)), (opQ, .inl (cI, 151, .inl pQ)), (okp, .inl (cI, 256, .inl kp)), (okS, .inl (cI, 4, .inl kS)), (okR, .inl (cI, 4, .inl kR)), (okP, .inl (cI, 4, .inl kP)), (okQ, .inl (cI, 4, .inl kQ)), (oli, .inl (cI, 1320, .inl li))] H → va_D A [(oM, .inr (5, [.int mth, .int mpl, .ref obd, .int msd, .int mrt, .int mps, .int mqt, .int mmd, .ref opa, .ref opS, .ref opR, .ref opG, .ref opP, .ref opQ, .ref okp, .ref okS, .ref okR, .ref okP, .ref okQ, .ref oli])), (obd, .inl (cI, 64, .inl bd)), (opa, .inl (cI, 9664, .inl pa)), (opS, .inl (cI, 151, .inl pS)), (opR, .inl (cI, 151, .inl pR)), (opG, .inl (cI, 151, .inl pG)), (opP, .inl (cI, 151, .inl pP)), (opQ, .inl (cI, 151, .inl pQ)), (okp, .inl (cI, 256, .inl kp)), (okS, .inl (cI, 4, .inl kS)), (okR, .inl (cI, 4, .inl kR)), (okP, .inl (cI, 4, .inl kP)), (okQ, .inl (cI, 4, .inl kQ)), (oli, .inl (cI, 1320, .inl li))] → va_S A s.heap H locs → bk_M_free_59 bd a1 a2 x4 = some rr → W p l e rm_M_free s m ([.ref oM, .int a1, .int a2] : List Value).toArray below meth c H locs 0 0 Q (F0 m 59 ls []) := by
    intro x4 H locs ls hl hP hD hS hf
    rw [bk_M_free_59] at hf
    refine lv_iload hx hb dd_M_free_59 (lv_at hl 1 rfl) ?_
    refine lv_iload_n hx hb dd_M_free_61 rfl (lv_at hl 0 rfl) ?_
    refine lv_icmp_ne (tgt := 69) hx hb dd_M_free_62 (by decide) (fun hc => ?_) (fun hc => ?_)
    · replace hf := qq_f hc hf
      refine lv_iconst (v := 0) hx hb dd_M_free_69 (by decide) ?_
      exact hJ70 0 _ _ _ (lv_sub hl [] rfl) hP hD hS hf
    · replace hf := qq_t hc hf
      refine lv_iconst (v := 1) hx hb dd_M_free_65 (by decide) ?_
      refine lv_goto (tgt := 70) hx hb dd_M_free_66 (by decide) ?_
      exact hJ70 1 _ _ _ (lv_sub hl [] rfl) hP hD hS hf
  have hL34 : ∀ (n34 : Nat) (x3 : Int32) (x4 : Int32) (H : Heap) (locs : List Loc) (ls : Array Slot), lv_has ls 5 [(0, .ref oM), (2, .int a2), (3, .int x3), (4, .int x4)] → va_P (dC, dI) classes [(oM, .inr (5, [.int mth, .int mpl, .ref obd, .int msd, .int mrt, .int mps, .int mqt, .int mmd, .ref opa, .ref opS, .ref opR, .ref opG, .ref opP, .ref opQ, .ref okp, .ref okS, .ref okR, .ref okP, .ref okQ, .ref oli])), (obd, .inl (cI, 64, .inl bd)), (opa, .inl (cI, 9664, .inl pa)), (opS, .inl (cI, 151, .inl pS)), (opR, .inl (cI, 151, .inl pR)), (opG, .inl (cI, 151, .inl pG)), (opP, .inl (cI, 151, .inl pP)), (opQ, .inl (cI, 151, .inl pQ)), (okp, .inl (cI, 256, .inl kp)), (okS, .inl (cI, 4, .inl kS)), (okR, .inl (cI, 4, .inl kR)), (okP, .inl (cI, 4, .inl kP)), (okQ, .inl (cI, 4, .inl kQ)), (oli, .inl (cI, 1320, .inl li))] H → va_D A [(oM, .inr (5, [.int mth, .int mpl, .ref obd, .int msd, .int mrt, .int mps, .int mqt, .int mmd, .ref opa, .ref opS, .ref opR, .ref opG, .ref opP, .ref opQ, .ref okp, .ref okS, .ref okR, .ref okP, .ref okQ, .ref oli])), (obd, .inl (cI, 64, .inl bd)), (opa, .inl (cI, 9664, .inl pa)), (opS, .inl (cI, 151, .inl pS)), (opR, .inl (cI, 151, .inl pR)), (opG, .inl (cI, 151, .inl pG)), (opP, .inl (cI, 151, .inl pP)), (opQ, .inl (cI, 151, .inl pQ)), (okp, .inl (cI, 256, .inl kp)), (okS, .inl (cI, 4, .inl kS)), (okR, .inl (cI, 4, .inl kR)), (okP, .inl (cI, 4, .inl kP)), (okQ, .inl (cI, 4, .inl kQ)), (oli, .inl (cI, 1320, .inl li))] → va_S A s.heap H locs → lo_M_free_34 bd a1 a2 n34 x3 x4 = some rr → W p l e rm_M_free s m ([.ref oM, .int a1, .int a2] : List Value).toArray below meth c H locs 0 0 Q (F0 m 34 ls []) := by
    intro n34
    induction n34 with
    | zero => exact fun x3 x4 H locs ls hl hP hD hS hf => absurd hf (by rw [lo_M_free_34_z]; exact fun h => by cases h)
    | succ n34 ih34 =>
      intro x3 x4 H locs ls hl hP hD hS hf
      rw [lo_M_free_34_s] at hf
      refine lv_iload hx hb dd_M_free_34 (lv_at hl 3 rfl) ?_
      refine lv_iload_n hx hb dd_M_free_36 rfl (lv_at hl 1 rfl) ?_
      refine lv_icmp_eq (tgt := 59) hx hb dd_M_free_37 (by decide) (fun hc => ?_) (fun hc => ?_)
      · replace hf := qq_t hc hf
        exact hJ59 x4 _ _ _ (lv_sub hl [1, 3] rfl) hP hD hS hf
      · replace hf := qq_f hc hf
        refine lv_aload_n hx hb dd_M_free_40 rfl (lv_at hl 0 rfl) ?_
        refine va_get (D := (dC, dI)) (ci := 5) (v := .ref obd) (C := RR_M) (T := FF_M) (N := 20) hx hb hts uu_M hown hK hP 0 rfl rfl 2 (by decide) (hts _ mm_209) (fun _ h9 => h9) rfl dd_M_free_41 ?_
        refine lv_iload hx hb dd_M_free_44 (lv_at hl 3 rfl) ?_
        obtain ⟨hi3001, hf⟩ := qq_ckE hf
        refine va_iald (D := (dC, dI)) (f := bd) (n := 64) (cA := cI) hx hb hK hP 1 0 rfl rfl (qq_inE hi3001) dd_M_free_46 ?_
        refine lv_if_ne (tgt := 59) hx hb dd_M_free_47 (by decide) (fun hc => ?_) (fun hc => ?_)
        · replace hf := qq_f hc hf
          exact hJ59 x4 _ _ _ (lv_sub hl [1, 3] rfl) hP hD hS hf
        · replace hf := qq_t hc hf
          refine lv_iload hx hb dd_M_free_50 (lv_at hl 3 rfl) ?_
          refine lv_iload_n hx hb dd_M_free_52 rfl (lv_at hl 2 rfl) ?_
          refine lv_iadd hx hb dd_M_free_53 ?_
          refine lv_topi (fun v3002 ev3002 => ?_)
          replace hf := qq_lt ev3002 hf
          refine lv_istore (lv' := [(4, .int v3002), (0, .ref oM), (2, .int a2), (3, .int x3)]) hx hb dd_M_free_54 hl (by decide) rfl (fun ls hl => ?_)
          refine lv_goto (tgt := 34) hx hb dd_M_free_56 (by decide) ?_
          exact ih34 x3 v3002 _ _ _ (lv_sub hl [1, 2, 3, 0] rfl) hP hD hS hf
  rw [fn_M_free] at hf
  refine lv_bipush (v := 8) hx hb dd_M_free_0 (by decide) ?_
  refine lv_iload_n hx hb dd_M_free_2 rfl (lv_at hl 2 rfl) ?_
  refine lv_bipush (v := 8) hx hb dd_M_free_3 (by decide) ?_
  refine lv_idiv hx hb dd_M_free_5 (by decide) ?_
  refine lv_iload_n hx hb dd_M_free_6 rfl (lv_at hl 1 rfl) ?_
  refine lv_bipush (v := 8) hx hb dd_M_free_7 (by decide) ?_
  refine lv_idiv hx hb dd_M_free_9 (by decide) ?_
  refine lv_isub hx hb dd_M_free_10 ?_
  obtain ⟨r1, hy1, hf⟩ := qq_bd hf
  refine qq_S (As := [.int ((a2 / 8) - (a1 / 8))]) (rest := [.int 8]) (wr := [(oM, .inr (5, [.int mth, .int mpl, .ref obd, .int msd, .int mrt, .int mps, .int mqt, .int mmd, .ref opa, .ref opS, .ref opR, .ref opG, .ref opP, .ref opQ, .ref okp, .ref okS, .ref okR, .ref okP, .ref okQ, .ref oli])), (obd, .inl (cI, 64, .inl bd)), (opa, .inl (cI, 9664, .inl pa)), (opS, .inl (cI, 151, .inl pS)), (opR, .inl (cI, 151, .inl pR)), (opG, .inl (cI, 151, .inl pG)), (opP, .inl (cI, 151, .inl pP)), (opQ, .inl (cI, 151, .inl pQ)), (okp, .inl (cI, 256, .inl kp)), (okS, .inl (cI, 4, .inl kS)), (okR, .inl (cI, 4, .inl kR)), (okP, .inl (cI, 4, .inl kP)), (okQ, .inl (cI, 4, .inl kQ)), (oli, .inl (cI, 1320, .inl li))]) (wf := [(oM, .inr (5, [.int mth, .int mpl, .ref obd, .int msd, .int mrt, .int mps, .int mqt, .int mmd, .ref opa, .ref opS, .ref opR, .ref opG, .ref opP, .ref opQ, .ref okp, .ref okS, .ref okR, .ref okP, .ref okQ, .ref oli])), (obd, .inl (cI, 64, .inl bd)), (opa, .inl (cI, 9664, .inl pa)), (opS, .inl (cI, 151, .inl pS)), (opR, .inl (cI, 151, .inl pR)), (opG, .inl (cI, 151, .inl pG)), (opP, .inl (cI, 151, .inl pP)), (opQ, .inl (cI, 151, .inl pQ)), (okp, .inl (cI, 256, .inl kp)), (okS, .inl (cI, 4, .inl kS)), (okR, .inl (cI, 4, .inl kR)), (okP, .inl (cI, 4, .inl kP)), (okQ, .inl (cI, 4, .inl kQ)), (oli, .inl (cI, 1320, .inl li))]) ⟨hx, hb, hml, hown, hts⟩ (ct_M_sign l dC dI cI cL cR ((a2 / 8) - (a1 / 8)) hy1) mm_212 mm_213 mm_210 mm_211 hd_M_sign (by decide) qq_00 hP hD hK hS hA hT hN [] [0, 1, 2, 3, 4, 5, 6, 7, 8, 9, 10, 11, 12, 13] [0, 1, 2, 3, 4, 5, 6, 7, 8, 9, 10, 11, 12, 13] rfl rfl rfl (by decide) rfl hl.1 rfl (Nat.le_of_ble_eq_true rfl) dd_M_free_11 (fun H locs hP hD hS => ?_)
  refine W.eq (g2 := F0 m 14 ls [.int r1, .int 8]) rfl ?_
  refine lv_imul hx hb dd_M_free_14 ?_
  refine lv_iload_n hx hb dd_M_free_15 rfl (lv_at hl 2 rfl) ?_
  refine lv_bipush (v := 8) hx hb dd_M_free_16 (by decide) ?_
  refine lv_irem hx hb dd_M_free_18 (by decide) ?_
  refine lv_iload_n hx hb dd_M_free_19 rfl (lv_at hl 1 rfl) ?_
  refine lv_bipush (v := 8) hx hb dd_M_free_20 (by decide) ?_
  refine lv_irem hx hb dd_M_free_22 (by decide) ?_
  refine lv_isub hx hb dd_M_free_23 ?_
  obtain ⟨r2, hy2, hf⟩ := qq_bd hf
  refine qq_S (As := [.int ((a2 - a2 / 8 * 8) - (a1 - a1 / 8 * 8))]) (rest := [.int (8 * r1)]) (wr := [(oM, .inr (5, [.int mth, .int mpl, .ref obd, .int msd, .int mrt, .int mps, .int mqt, .int mmd, .ref opa, .ref opS, .ref opR, .ref opG, .ref opP, .ref opQ, .ref okp, .ref okS, .ref okR, .ref okP, .ref okQ, .ref oli])), (obd, .inl (cI, 64, .inl bd)), (opa, .inl (cI, 9664, .inl pa)), (opS, .inl (cI, 151, .inl pS)), (opR, .inl (cI, 151, .inl pR)), (opG, .inl (cI, 151, .inl pG)), (opP, .inl (cI, 151, .inl pP)), (opQ, .inl (cI, 151, .inl pQ)), (okp, .inl (cI, 256, .inl kp)), (okS, .inl (cI, 4, .inl kS)), (okR, .inl (cI, 4, .inl kR)), (okP, .inl (cI, 4, .inl kP)), (okQ, .inl (cI, 4, .inl kQ)), (oli, .inl (cI, 1320, .inl li))]) (wf := [(oM, .inr (5, [.int mth, .int mpl, .ref obd, .int msd, .int mrt, .int mps, .int mqt, .int mmd, .ref opa, .ref opS, .ref opR, .ref opG, .ref opP, .ref opQ, .ref okp, .ref okS, .ref okR, .ref okP, .ref okQ, .ref oli])), (obd, .inl (cI, 64, .inl bd)), (opa, .inl (cI, 9664, .inl pa)), (opS, .inl (cI, 151, .inl pS)), (opR, .inl (cI, 151, .inl pR)), (opG, .inl (cI, 151, .inl pG)), (opP, .inl (cI, 151, .inl pP)), (opQ, .inl (cI, 151, .inl pQ)), (okp, .inl (cI, 256, .inl kp)), (okS, .inl (cI, 4, .inl kS)), (okR, .inl (cI, 4, .inl kR)), (okP, .inl (cI, 4, .inl kP)), (okQ, .inl (cI, 4, .inl kQ)), (oli, .inl (cI, 1320, .inl li))]) ⟨hx, hb, hml, hown, hts⟩ (ct_M_sign l dC dI cI cL cR ((a2 - a2 / 8 * 8) - (a1 - a1 / 8 * 8)) hy2) mm_212 mm_213 mm_210 mm_211 hd_M_sign (by decide) qq_00 hP hD hK hS hA hT hN [] [0, 1, 2, 3, 4, 5, 6, 7, 8, 9, 10, 11, 12, 13] [0, 1, 2, 3, 4, 5, 6, 7, 8, 9, 10, 11, 12, 13] rfl rfl rfl (by decide) rfl hl.1 rfl (Nat.le_of_ble_eq_true rfl) dd_M_free_24 (fun H locs hP hD hS => ?_)
  refine W.eq (g2 := F0 m 27 ls [.int r2, .int (8 * r1)]) rfl ?_
  refine lv_iadd hx hb dd_M_free_27 ?_
  refine lv_topi (fun v3 ev3 => ?_)
  replace hf := qq_lt ev3 hf
  refine lv_istore_n (lv' := [(3, .int v3), (0, .ref oM), (1, .int a1), (2, .int a2)]) hx hb dd_M_free_28 rfl hl (by decide) rfl (fun ls hl => ?_)
  refine lv_iload_n hx hb dd_M_free_29 rfl (lv_at hl 2 rfl) ?_
  refine lv_iload_n hx hb dd_M_free_30 rfl (lv_at hl 0 rfl) ?_
  refine lv_iadd hx hb dd_M_free_31 ?_
  refine lv_topi (fun v4 ev4 => ?_)
  replace hf := qq_lt ev4 hf
  refine lv_istore (lv' := [(4, .int v4), (3, .int v3), (0, .ref oM), (1, .int a1), (2, .int a2)]) hx hb dd_M_free_32 hl (by decide) rfl (fun ls hl => ?_)
  exact hL34 qq_FU v3 v4 _ _ _ (lv_sub hl [2, 4, 1, 0] rfl) hP hD hS hf
theorem dd_M_reaches_0 : decode bb_M_reaches 0 = .ok (.iload_n 2, 1) := by decide +kernel
theorem dd_M_reaches_1 : decode bb_M_reaches 1 = .ok (.bipush 8, 2) := by decide +kernel
theorem dd_M_reaches_3 : decode bb_M_reaches 3 = .ok (.irem, 1) := by decide +kernel
theorem dd_M_reaches_4 : decode bb_M_reaches 4 = .ok (.iload_n 1, 1) := by decide +kernel
theorem dd_M_reaches_5 : decode bb_M_reaches 5 = .ok (.bipush 8, 2) := by decide +kernel
theorem dd_M_reaches_7 : decode bb_M_reaches 7 = .ok (.irem, 1) := by decide +kernel
theorem dd_M_reaches_8 : decode bb_M_reaches 8 = .ok (.isub, 1) := by decide +kernel
theorem dd_M_reaches_9 : decode bb_M_reaches 9 = .ok (.invokestatic 70, 3) := by decide +kernel
theorem dd_M_reaches_12 : decode bb_M_reaches 12 = .ok (.istore_n 3, 1) := by decide +kernel
theorem dd_M_reaches_13 : decode bb_M_reaches 13 = .ok (.iload_n 2, 1) := by decide +kernel
theorem dd_M_reaches_14 : decode bb_M_reaches 14 = .ok (.bipush 8, 2) := by decide +kernel
theorem dd_M_reaches_16 : decode bb_M_reaches 16 = .ok (.idiv, 1) := by decide +kernel
theorem dd_M_reaches_17 : decode bb_M_reaches 17 = .ok (.iload_n 1, 1) := by decide +kernel
theorem dd_M_reaches_18 : decode bb_M_reaches 18 = .ok (.bipush 8, 2) := by decide +kernel
theorem dd_M_reaches_20 : decode bb_M_reaches 20 = .ok (.idiv, 1) := by decide +kernel
theorem dd_M_reaches_21 : decode bb_M_reaches 21 = .ok (.isub, 1) := by decide +kernel
theorem dd_M_reaches_22 : decode bb_M_reaches 22 = .ok (.invokestatic 70, 3) := by decide +kernel
theorem dd_M_reaches_25 : decode bb_M_reaches 25 = .ok (.istore 4, 2) := by decide +kernel
theorem dd_M_reaches_27 : decode bb_M_reaches 27 = .ok (.iload_n 1, 1) := by decide +kernel
theorem dd_M_reaches_28 : decode bb_M_reaches 28 = .ok (.iload_n 2, 1) := by decide +kernel
theorem dd_M_reaches_29 : decode bb_M_reaches 29 = .ok (.if_icmp .eq 16, 3) := by decide +kernel
theorem dd_M_reaches_32 : decode bb_M_reaches 32 = .ok (.iload_n 3, 1) := by decide +kernel
theorem dd_M_reaches_33 : decode bb_M_reaches 33 = .ok (.ifCond .eq 8, 3) := by decide +kernel
theorem dd_M_reaches_36 : decode bb_M_reaches 36 = .ok (.iload 4, 2) := by decide +kernel
theorem dd_M_reaches_38 : decode bb_M_reaches 38 = .ok (.ifCond .ne 7, 3) := by decide +kernel
theorem dd_M_reaches_41 : decode bb_M_reaches 41 = .ok (.iconst 1, 1) := by decide +kernel
theorem dd_M_reaches_42 : decode bb_M_reaches 42 = .ok (.goto 4, 3) := by decide +kernel
theorem dd_M_reaches_45 : decode bb_M_reaches 45 = .ok (.iconst 0, 1) := by decide +kernel
theorem dd_M_reaches_46 : decode bb_M_reaches 46 = .ok (.istore 5, 2) := by decide +kernel
theorem dd_M_reaches_48 : decode bb_M_reaches 48 = .ok (.iload_n 1, 1) := by decide +kernel
theorem dd_M_reaches_49 : decode bb_M_reaches 49 = .ok (.iload_n 2, 1) := by decide +kernel
theorem dd_M_reaches_50 : decode bb_M_reaches 50 = .ok (.if_icmp .eq 13, 3) := by decide +kernel
theorem dd_M_reaches_53 : decode bb_M_reaches 53 = .ok (.iload_n 3, 1) := by decide +kernel
theorem dd_M_reaches_54 : decode bb_M_reaches 54 = .ok (.iload 4, 2) := by decide +kernel
theorem dd_M_reaches_56 : decode bb_M_reaches 56 = .ok (.if_icmp .ne 7, 3) := by decide +kernel
theorem dd_M_reaches_59 : decode bb_M_reaches 59 = .ok (.iconst 1, 1) := by decide +kernel
theorem dd_M_reaches_60 : decode bb_M_reaches 60 = .ok (.goto 4, 3) := by decide +kernel
theorem dd_M_reaches_63 : decode bb_M_reaches 63 = .ok (.iconst 0, 1) := by decide +kernel
theorem dd_M_reaches_64 : decode bb_M_reaches 64 = .ok (.istore 6, 2) := by decide +kernel
theorem dd_M_reaches_66 : decode bb_M_reaches 66 = .ok (.aload_n 0, 1) := by decide +kernel
theorem dd_M_reaches_67 : decode bb_M_reaches 67 = .ok (.getfield 7, 3) := by decide +kernel
theorem dd_M_reaches_70 : decode bb_M_reaches 70 = .ok (.iload_n 1, 1) := by decide +kernel
theorem dd_M_reaches_71 : decode bb_M_reaches 71 = .ok (.iaload, 1) := by decide +kernel
theorem dd_M_reaches_72 : decode bb_M_reaches 72 = .ok (.invokestatic 73, 3) := by decide +kernel
theorem dd_M_reaches_75 : decode bb_M_reaches 75 = .ok (.tableswitch 180 1 6 #[37, 79, 93, 113, 133, 158], 37) := by decide +kernel
theorem dd_M_reaches_112 : decode bb_M_reaches 112 = .ok (.iload_n 3, 1) := by decide +kernel
theorem dd_M_reaches_113 : decode bb_M_reaches 113 = .ok (.iconst 1, 1) := by decide +kernel
theorem dd_M_reaches_114 : decode bb_M_reaches 114 = .ok (.if_icmp .ne 38, 3) := by decide +kernel
theorem dd_M_reaches_117 : decode bb_M_reaches 117 = .ok (.iload_n 2, 1) := by decide +kernel
theorem dd_M_reaches_118 : decode bb_M_reaches 118 = .ok (.bipush 8, 2) := by decide +kernel
theorem dd_M_reaches_120 : decode bb_M_reaches 120 = .ok (.idiv, 1) := by decide +kernel
theorem dd_M_reaches_121 : decode bb_M_reaches 121 = .ok (.iload_n 1, 1) := by decide +kernel
theorem dd_M_reaches_122 : decode bb_M_reaches 122 = .ok (.bipush 8, 2) := by decide +kernel
theorem dd_M_reaches_124 : decode bb_M_reaches 124 = .ok (.idiv, 1) := by decide +kernel
theorem dd_M_reaches_125 : decode bb_M_reaches 125 = .ok (.isub, 1) := by decide +kernel
theorem dd_M_reaches_126 : decode bb_M_reaches 126 = .ok (.aload_n 0, 1) := by decide +kernel
theorem dd_M_reaches_127 : decode bb_M_reaches 127 = .ok (.getfield 7, 3) := by decide +kernel
theorem dd_M_reaches_130 : decode bb_M_reaches 130 = .ok (.iload_n 1, 1) := by decide +kernel
theorem dd_M_reaches_131 : decode bb_M_reaches 131 = .ok (.iaload, 1) := by decide +kernel
theorem dd_M_reaches_132 : decode bb_M_reaches 132 = .ok (.bipush 6, 2) := by decide +kernel
theorem dd_M_reaches_134 : decode bb_M_reaches 134 = .ok (.if_icmp .le 7, 3) := by decide +kernel
theorem dd_M_reaches_137 : decode bb_M_reaches 137 = .ok (.iconst 1, 1) := by decide +kernel
theorem dd_M_reaches_138 : decode bb_M_reaches 138 = .ok (.goto 4, 3) := by decide +kernel
theorem dd_M_reaches_141 : decode bb_M_reaches 141 = .ok (.iconst 0, 1) := by decide +kernel
theorem dd_M_reaches_142 : decode bb_M_reaches 142 = .ok (.invokestatic 76, 3) := by decide +kernel
theorem dd_M_reaches_145 : decode bb_M_reaches 145 = .ok (.if_icmp .ne 7, 3) := by decide +kernel
theorem dd_M_reaches_148 : decode bb_M_reaches 148 = .ok (.iconst 1, 1) := by decide +kernel
theorem dd_M_reaches_149 : decode bb_M_reaches 149 = .ok (.goto 4, 3) := by decide +kernel
theorem dd_M_reaches_152 : decode bb_M_reaches 152 = .ok (.iconst 0, 1) := by decide +kernel
theorem dd_M_reaches_153 : decode bb_M_reaches 153 = .ok (.ireturn, 1) := by decide +kernel
theorem dd_M_reaches_154 : decode bb_M_reaches 154 = .ok (.iload_n 3, 1) := by decide +kernel
theorem dd_M_reaches_155 : decode bb_M_reaches 155 = .ok (.iload 4, 2) := by decide +kernel
theorem dd_M_reaches_157 : decode bb_M_reaches 157 = .ok (.imul, 1) := by decide +kernel
theorem dd_M_reaches_158 : decode bb_M_reaches 158 = .ok (.iconst 2, 1) := by decide +kernel
theorem dd_M_reaches_159 : decode bb_M_reaches 159 = .ok (.if_icmp .ne 7, 3) := by decide +kernel
theorem dd_M_reaches_162 : decode bb_M_reaches 162 = .ok (.iconst 1, 1) := by decide +kernel
theorem dd_M_reaches_163 : decode bb_M_reaches 163 = .ok (.goto 4, 3) := by decide +kernel
theorem dd_M_reaches_166 : decode bb_M_reaches 166 = .ok (.iconst 0, 1) := by decide +kernel
theorem dd_M_reaches_167 : decode bb_M_reaches 167 = .ok (.ireturn, 1) := by decide +kernel
theorem dd_M_reaches_168 : decode bb_M_reaches 168 = .ok (.iload 6, 2) := by decide +kernel
theorem dd_M_reaches_170 : decode bb_M_reaches 170 = .ok (.ifCond .eq 16, 3) := by decide +kernel
theorem dd_M_reaches_173 : decode bb_M_reaches 173 = .ok (.aload_n 0, 1) := by decide +kernel
theorem dd_M_reaches_174 : decode bb_M_reaches 174 = .ok (.iload_n 1, 1) := by decide +kernel
theorem dd_M_reaches_175 : decode bb_M_reaches 175 = .ok (.iload_n 2, 1) := by decide +kernel
theorem dd_M_reaches_176 : decode bb_M_reaches 176 = .ok (.invokevirtual 79, 3) := by decide +kernel
theorem dd_M_reaches_179 : decode bb_M_reaches 179 = .ok (.ifCond .eq 7, 3) := by decide +kernel
theorem dd_M_reaches_182 : decode bb_M_reaches 182 = .ok (.iconst 1, 1) := by decide +kernel
theorem dd_M_reaches_183 : decode bb_M_reaches 183 = .ok (.goto 4, 3) := by decide +kernel
theorem dd_M_reaches_186 : decode bb_M_reaches 186 = .ok (.iconst 0, 1) := by decide +kernel
theorem dd_M_reaches_187 : decode bb_M_reaches 187 = .ok (.ireturn, 1) := by decide +kernel
theorem dd_M_reaches_188 : decode bb_M_reaches 188 = .ok (.iload 5, 2) := by decide +kernel
theorem dd_M_reaches_190 : decode bb_M_reaches 190 = .ok (.ifCond .eq 16, 3) := by decide +kernel
theorem dd_M_reaches_193 : decode bb_M_reaches 193 = .ok (.aload_n 0, 1) := by decide +kernel
theorem dd_M_reaches_194 : decode bb_M_reaches 194 = .ok (.iload_n 1, 1) := by decide +kernel
theorem dd_M_reaches_195 : decode bb_M_reaches 195 = .ok (.iload_n 2, 1) := by decide +kernel
theorem dd_M_reaches_196 : decode bb_M_reaches 196 = .ok (.invokevirtual 79, 3) := by decide +kernel
theorem dd_M_reaches_199 : decode bb_M_reaches 199 = .ok (.ifCond .eq 7, 3) := by decide +kernel
theorem dd_M_reaches_202 : decode bb_M_reaches 202 = .ok (.iconst 1, 1) := by decide +kernel
theorem dd_M_reaches_203 : decode bb_M_reaches 203 = .ok (.goto 4, 3) := by decide +kernel
theorem dd_M_reaches_206 : decode bb_M_reaches 206 = .ok (.iconst 0, 1) := by decide +kernel
theorem dd_M_reaches_207 : decode bb_M_reaches 207 = .ok (.ireturn, 1) := by decide +kernel
theorem dd_M_reaches_208 : decode bb_M_reaches 208 = .ok (.iload 5, 2) := by decide +kernel
theorem dd_M_reaches_210 : decode bb_M_reaches 210 = .ok (.ifCond .ne 8, 3) := by decide +kernel
theorem dd_M_reaches_213 : decode bb_M_reaches 213 = .ok (.iload 6, 2) := by decide +kernel
theorem dd_M_reaches_215 : decode bb_M_reaches 215 = .ok (.ifCond .eq 16, 3) := by decide +kernel
theorem dd_M_reaches_218 : decode bb_M_reaches 218 = .ok (.aload_n 0, 1) := by decide +kernel
theorem dd_M_reaches_219 : decode bb_M_reaches 219 = .ok (.iload_n 1, 1) := by decide +kernel
theorem dd_M_reaches_220 : decode bb_M_reaches 220 = .ok (.iload_n 2, 1) := by decide +kernel
theorem dd_M_reaches_221 : decode bb_M_reaches 221 = .ok (.invokevirtual 79, 3) := by decide +kernel
theorem dd_M_reaches_224 : decode bb_M_reaches 224 = .ok (.ifCond .eq 7, 3) := by decide +kernel
theorem dd_M_reaches_227 : decode bb_M_reaches 227 = .ok (.iconst 1, 1) := by decide +kernel
theorem dd_M_reaches_228 : decode bb_M_reaches 228 = .ok (.goto 4, 3) := by decide +kernel
theorem dd_M_reaches_231 : decode bb_M_reaches 231 = .ok (.iconst 0, 1) := by decide +kernel
theorem dd_M_reaches_232 : decode bb_M_reaches 232 = .ok (.ireturn, 1) := by decide +kernel
theorem dd_M_reaches_233 : decode bb_M_reaches 233 = .ok (.iload_n 3, 1) := by decide +kernel
theorem dd_M_reaches_234 : decode bb_M_reaches 234 = .ok (.iconst 2, 1) := by decide +kernel
theorem dd_M_reaches_235 : decode bb_M_reaches 235 = .ok (.if_icmp .ge 18, 3) := by decide +kernel
theorem dd_M_reaches_238 : decode bb_M_reaches 238 = .ok (.iload 4, 2) := by decide +kernel
theorem dd_M_reaches_240 : decode bb_M_reaches 240 = .ok (.iconst 2, 1) := by decide +kernel
theorem dd_M_reaches_241 : decode bb_M_reaches 241 = .ok (.if_icmp .ge 12, 3) := by decide +kernel
theorem dd_M_reaches_244 : decode bb_M_reaches 244 = .ok (.iload_n 1, 1) := by decide +kernel
theorem dd_M_reaches_245 : decode bb_M_reaches 245 = .ok (.iload_n 2, 1) := by decide +kernel
theorem dd_M_reaches_246 : decode bb_M_reaches 246 = .ok (.if_icmp .eq 7, 3) := by decide +kernel
theorem dd_M_reaches_249 : decode bb_M_reaches 249 = .ok (.iconst 1, 1) := by decide +kernel
theorem dd_M_reaches_250 : decode bb_M_reaches 250 = .ok (.goto 4, 3) := by decide +kernel
theorem dd_M_reaches_253 : decode bb_M_reaches 253 = .ok (.iconst 0, 1) := by decide +kernel
theorem dd_M_reaches_254 : decode bb_M_reaches 254 = .ok (.ireturn, 1) := by decide +kernel
theorem dd_M_reaches_255 : decode bb_M_reaches 255 = .ok (.iconst 0, 1) := by decide +kernel
theorem dd_M_reaches_256 : decode bb_M_reaches 256 = .ok (.ireturn, 1) := by decide +kernel
abbrev ty_M_reaches : Type := Int32
noncomputable def bk_M_reaches_254 (bd : Nat → Int32) (a1 : Int32) (a2 : Int32) (s0 : Int32) : Option ty_M_reaches := qq_ck (qq_b s0) <| some s0
noncomputable def bk_M_reaches_253 (bd : Nat → Int32) (a1 : Int32) (a2 : Int32) : Option ty_M_reaches := bk_M_reaches_254 bd a1 a2 0
noncomputable def bk_M_reaches_232 (bd : Nat → Int32) (a1 : Int32) (a2 : Int32) (s0 : Int32) : Option ty_M_reaches := qq_ck (qq_b s0) <| some s0
noncomputable def bk_M_reaches_231 (bd : Nat → Int32) (a1 : Int32) (a2 : Int32) : Option ty_M_reaches := bk_M_reaches_232 bd a1 a2 0
noncomputable def bk_M_reaches_218 (bd : Nat → Int32) (a1 : Int32) (a2 : Int32) : Option ty_M_reaches := (fn_M_free bd a1 a2).bind fun r5001 => if r5001 = 0 then (bk_M_reaches_231 bd a1 a2) else (bk_M_reaches_232 bd a1 a2 1)
noncomputable def bk_M_reaches_207 (bd : Nat → Int32) (a1 : Int32) (a2 : Int32) (s0 : Int32) : Option ty_M_reaches := qq_ck (qq_b s0) <| some s0
noncomputable def bk_M_reaches_206 (bd : Nat → Int32) (a1 : Int32) (a2 : Int32) : Option ty_M_reaches := bk_M_reaches_207 bd a1 a2 0
noncomputable def bk_M_reaches_187 (bd : Nat → Int32) (a1 : Int32) (a2 : Int32) (s0 : Int32) : Option ty_M_reaches := qq_ck (qq_b s0) <| some s0
noncomputable def bk_M_reaches_186 (bd : Nat → Int32) (a1 : Int32) (a2 : Int32) : Option ty_M_reaches := bk_M_reaches_187 bd a1 a2 0
noncomputable def bk_M_reaches_167 (bd : Nat → Int32) (a1 : Int32) (a2 : Int32) (s0 : Int32) : Option ty_M_reaches := qq_ck (qq_b s0) <| some s0
noncomputable def bk_M_reaches_153 (bd : Nat → Int32) (a1 : Int32) (a2 : Int32) (s0 : Int32) : Option ty_M_reaches := qq_ck (qq_b s0) <| some s0
noncomputable def bk_M_reaches_152 (bd : Nat → Int32) (a1 : Int32) (a2 : Int32) : Option ty_M_reaches := bk_M_reaches_153 bd a1 a2 0
noncomputable def bk_M_reaches_142 (bd : Nat → Int32) (a1 : Int32) (a2 : Int32) (s0 : Int32) (s1 : Int32) : Option ty_M_reaches := (fn_M_ahead s1).bind fun r13001 => if s0 = r13001 then (bk_M_reaches_153 bd a1 a2 1) else (bk_M_reaches_152 bd a1 a2)
noncomputable def bk_M_reaches_64 (bd : Nat → Int32) (a1 : Int32) (a2 : Int32) (x3 : Int32) (x4 : Int32) (x5 : Int32) (s0 : Int32) : Option ty_M_reaches := qq_ck (qq_in a1 64) <| (fn_M_kindOf (bd a1.toNatClampNeg)).bind fun r14002 => if r14002 = 1 then (if x3 = 1 then (qq_ck (qq_in a1 64) <| if (bd a1.toNatClampNeg) ≤ 6 then (bk_M_reaches_142 bd a1 a2 ((a2 / 8) - (a1 / 8)) 0) else (bk_M_reaches_142 bd a1 a2 ((a2 / 8) - (a1 / 8)) 1)) else (bk_M_reaches_152 bd a1 a2)) else (if r14002 = 2 then (if (x3 * x4) = 2 then (bk_M_reaches_167 bd a1 a2 1) else (bk_M_reaches_167 bd a1 a2 0)) else (if r14002 = 3 then (if s0 = 0 then (bk_M_reaches_186 bd a1 a2) else ((fn_M_free bd a1 a2).bind fun r14004 => if r14004 = 0 then (bk_M_reaches_186 bd a1 a2) else (bk_M_reaches_187 bd a1 a2 1))) else (if r14002 = 4 then (if x5 = 0 then (bk_M_reaches_206 bd a1 a2) else ((fn_M_free bd a1 a2).bind fun r14005 => if r14005 = 0 then (bk_M_reaches_206 bd a1 a2) else (bk_M_reaches_207 bd a1 a2 1))) else (if r14002 = 5 then (if x5 = 0 then (if s0 = 0 then (bk_M_reaches_231 bd a1 a2) else (bk_M_reaches_218 bd a1 a2)) else (bk_M_reaches_218 bd a1 a2)) else (if r14002 = 6 then (if 2 ≤ x3 then (bk_M_reaches_253 bd a1 a2) else (if 2 ≤ x4 then (bk_M_reaches_253 bd a1 a2) else (if a1 = a2 then (bk_M_reaches_253 bd a1 a2) else (bk_M_reaches_254 bd a1 a2 1)))) else (some (0 : Int32)))))))
noncomputable def bk_M_reaches_63 (bd : Nat → Int32) (a1 : Int32) (a2 : Int32) (x3 : Int32) (x4 : Int32) (x5 : Int32) : Option ty_M_reaches := bk_M_reaches_64 bd a1 a2 x3 x4 x5 0
noncomputable def bk_M_reaches_46 (bd : Nat → Int32) (a1 : Int32) (a2 : Int32) (x3 : Int32) (x4 : Int32) (s0 : Int32) : Option ty_M_reaches := if a1 = a2 then (bk_M_reaches_63 bd a1 a2 x3 x4 s0) else (if x3 = x4 then (bk_M_reaches_64 bd a1 a2 x3 x4 s0 1) else (bk_M_reaches_63 bd a1 a2 x3 x4 s0))
noncomputable def bk_M_reaches_45 (bd : Nat → Int32) (a1 : Int32) (a2 : Int32) (x3 : Int32) (x4 : Int32) : Option ty_M_reaches := bk_M_reaches_46 bd a1 a2 x3 x4 0
noncomputable def bk_M_reaches_41 (bd : Nat → Int32) (a1 : Int32) (a2 : Int32) (x3 : Int32) (x4 : Int32) : Option ty_M_reaches := bk_M_reaches_46 bd a1 a2 x3 x4 1
noncomputable def fn_M_reaches (bd : Nat → Int32) (a1 : Int32) (a2 : Int32) : Option ty_M_reaches := (fn_M_size ((a2 - a2 / 8 * 8) - (a1 - a1 / 8 * 8))).bind fun r1 => (fn_M_size ((a2 / 8) - (a1 / 8))).bind fun r2 => if a1 = a2 then (bk_M_reaches_45 bd a1 a2 r1 r2) else (if r1 = 0 then (bk_M_reaches_41 bd a1 a2 r1 r2) else (if r2 = 0 then (bk_M_reaches_41 bd a1 a2 r1 r2) else (bk_M_reaches_45 bd a1 a2 r1 r2)))
abbrev rm_M_reaches : Room := { frames := 2, cells := 0, slots := 0, locals := 44 }
set_option maxHeartbeats 4000000 in
set_option maxRecDepth 100000 in
theorem ct_M_reaches (l : Launch) (dC : Nat → ClassId) (dI : Nat → Nat → Nat) (cI cL cR : ClassId) (oM obd opa opS opR opG opP opQ okp okS okR okP okQ oli : Nat) (mth : Int32) (mpl : Int32) (msd : Int32) (mrt : Int32) (mps : Int32) (mqt : Int32) (mmd : Int32) (bd : Nat → Int32) (pa : Nat → Int32) (pS : Nat → Int32) (pR : Nat → Int32) (pG : Nat → Int32) (pP : Nat → Int32) (pQ : Nat → Int32) (kp : Nat → Int32) (kS : Nat → Int32) (kR : Nat → Int32) (kP : Nat → Int32) (kQ : Nat → Int32) (li : Nat → Int32) (a1 : Int32) (a2 : Int32) {rr : Int32} (hf : fn_M_reaches bd a1 a2 = some rr) : qq_det l yy_M_reaches (ww_of yy_M_reaches bb_M_reaches 7 (some .boolean)) rm_M_reaches (dC, dI) (qq_ty cI cL cR) [.ref oM, .int a1, .int a2] [(oM, .inr (5, [.int mth, .int mpl, .ref obd, .int msd, .int mrt, .int mps, .int mqt, .int mmd, .ref opa, .ref opS, .ref opR, .ref opG, .ref opP, .ref opQ, .ref okp, .ref okS, .ref okR, .ref okP, .ref okQ, .ref oli])), (obd, .inl (cI, 64, .inl bd)), (opa, .inl (cI, 9664, .inl pa)), (opS, .inl (cI, 151, .inl pS)), (opR, .inl (cI, 151, .inl pR)), (opG, .inl (cI, 151, .inl pG)), (opP, .inl (cI, 151, .inl pP)), (opQ, .inl (cI, 151, .inl pQ)), (okp, .inl (cI, 256, .inl kp)), (okS, .inl (cI, 4, .inl kS)), (okR, .inl (cI, 4, .inl kR)), (okP, .inl (cI, 4, .inl kP)), (okQ, .inl (cI, 4, .inl kQ)), (oli, .inl (cI, 1320, .inl li))] (some (.int rr)) [(oM, .inr (5, [.int mth, .int mpl, .ref obd, .int msd, .int mrt, .int mps, .int mqt, .int mmd, .ref opa, .ref opS, .ref opR, .ref opG, .ref opP, .ref opQ, .ref okp, .ref okS, .ref okR, .ref okP, .ref okQ, .ref oli])), (obd, .inl (cI, 64, .inl bd)), (opa, .inl (cI, 9664, .inl pa)), (opS, .inl (cI, 151, .inl pS)), (opR, .inl (cI, 151, .inl pR)), (opG, .inl (cI, 151, .inl pG)), (opP, .inl (cI, 151, .inl pP)), (opQ, .inl (cI, 151, .inl pQ)), (okp, .inl (cI, 256, .inl kp)), (okS, .inl (cI, 4, .inl kS)), (okR, .inl (cI, 4, .inl kR)), (okP, .inl (cI, 4, .inl kP)), (okQ, .inl (cI, 4, .inl kQ)), (oli, .inl (cI, 1320, .inl li))] := by
  refine qq_of (own := RR_M) (by decide) rfl (Nat.le_of_ble_eq_true rfl) ?_
  intro p e s m below meth c A Q ls hx hb hml hr hlocks hown hts hK hA hT hN hP hD hS hl hQ
  have hl : lv_has ls 7 [(0, .ref oM), (1, .int a1), (2, .int a2)] := hl
  have hJ254 : ∀ (s0 : Int32) (H : Heap) (locs : List Loc) (ls : Array Slot), lv_has ls 7 [] → va_P (dC, dI) classes [(oM, .inr (5, [.int mth, .int mpl, .ref obd, .int msd, .int mrt, .int mps, .int mqt, .int mmd, .ref opa, .ref opS, .ref opR, .ref opG, .ref opP, .ref opQ, .ref okp, .ref okS, .ref okR, .ref okP, .ref okQ, .ref oli])), (obd, .inl (cI, 64, .inl bd)), (opa, .inl (cI, 9664, .inl pa)), (opS, .inl (cI, 151, .inl pS)), (opR, .inl (cI, 151, .inl pR)), (opG, .inl (cI, 151, .inl pG)), (opP, .inl (cI, 151, .inl pP)), (opQ, .inl (cI, 151, .inl pQ)), (okp, .inl (cI, 256, .inl kp)), (okS, .inl (cI, 4, .inl kS)), (okR, .inl (cI, 4, .inl kR)), (okP, .inl (cI, 4, .inl kP)), (okQ, .inl (cI, 4, .inl kQ)), (oli, .inl (cI, 1320, .inl li))] H → va_D A [(oM, .inr (5, [.int mth, .int mpl, .ref obd, .int msd, .int mrt, .int mps, .int mqt, .int mmd, .ref opa, .ref opS, .ref opR, .ref opG, .ref opP, .ref opQ, .ref okp, .ref okS, .ref okR, .ref okP, .ref okQ, .ref oli])), (obd, .inl (cI, 64, .inl bd)), (opa, .inl (cI, 9664, .inl pa)), (opS, .inl (cI, 151, .inl pS)), (opR, .inl (cI, 151, .inl pR)), (opG, .inl (cI, 151, .inl pG)), (opP, .inl (cI, 151, .inl pP)), (opQ, .inl (cI, 151, .inl pQ)), (okp, .inl (cI, 256, .inl kp)), (okS, .inl (cI, 4, .inl kS)), (okR, .inl (cI, 4, .inl kR)), (okP, .inl (cI, 4, .inl kP)), (okQ, .inl (cI, 4, .inl kQ)), (oli, .inl (cI, 1320, .inl li))] → va_S A s.heap H locs → bk_M_reaches_254 bd a1 a2 s0 = some rr → W p l e rm_M_reaches s m ([.ref oM, .int a1, .int a2] : List Value).toArray below meth c H locs 0 0 Q (F0 m 254 ls [.int s0]) := by
    intro s0 H locs ls hl hP hD hS hf
    rw [bk_M_reaches_254] at hf
    obtain ⟨hzb, hf⟩ := qq_ckE hf
    cases hf
    exact qq_zret hx hb hr (qq_bE hzb) hlocks hQ hP hD hK hS dd_M_reaches_254
  have hJ253 : ∀  (H : Heap) (locs : List Loc) (ls : Array Slot), lv_has ls 7 [] → va_P (dC, dI) classes [(oM, .inr (5, [.int mth, .int mpl, .ref obd, .int msd, .int mrt, .int mps, .int mqt, .int mmd, .ref opa, .ref opS, .ref opR, .ref opG, .ref opP, .ref opQ, .ref okp, .ref okS, .ref okR, .ref okP, .ref okQ, .ref oli])), (obd, .inl (cI, 64, .inl bd)), (opa, .inl (cI, 9664, .inl pa)), (opS, .inl (cI, 151, .inl pS)), (opR, .inl (cI, 151, .inl pR)), (opG, .inl (cI, 151, .inl pG)), (opP, .inl (cI, 151, .inl pP)), (opQ, .inl (cI, 151, .inl pQ)), (okp, .inl (cI, 256, .inl kp)), (okS, .inl (cI, 4, .inl kS)), (okR, .inl (cI, 4, .inl kR)), (okP, .inl (cI, 4, .inl kP)), (okQ, .inl (cI, 4, .inl kQ)), (oli, .inl (cI, 1320, .inl li))] H → va_D A [(oM, .inr (5, [.int mth, .int mpl, .ref obd, .int msd, .int mrt, .int mps, .int mqt, .int mmd, .ref opa, .ref opS, .ref opR, .ref opG, .ref opP, .ref opQ, .ref okp, .ref okS, .ref okR, .ref okP, .ref okQ, .ref oli])), (obd, .inl (cI, 64, .inl bd)), (opa, .inl (cI, 9664, .inl pa)), (opS, .inl (cI, 151, .inl pS)), (opR, .inl (cI, 151, .inl pR)), (opG, .inl (cI, 151, .inl pG)), (opP, .inl (cI, 151, .inl pP)), (opQ, .inl (cI, 151, .inl pQ)), (okp, .inl (cI, 256, .inl kp)), (okS, .inl (cI, 4, .inl kS)), (okR, .inl (cI, 4, .inl kR)), (okP, .inl (cI, 4, .inl kP)), (okQ, .inl (cI, 4, .inl kQ)), (oli, .inl (cI, 1320, .inl li))] → va_S A s.heap H locs → bk_M_reaches_253 bd a1 a2 = some rr → W p l e rm_M_reaches s m ([.ref oM, .int a1, .int a2] : List Value).toArray below meth c H locs 0 0 Q (F0 m 253 ls []) := by
    intro  H locs ls hl hP hD hS hf
    rw [bk_M_reaches_253] at hf
    refine lv_iconst (v := 0) hx hb dd_M_reaches_253 (by decide) ?_
    exact hJ254 0 _ _ _ (lv_sub hl [] rfl) hP hD hS hf
  have hJ232 : ∀ (s0 : Int32) (H : Heap) (locs : List Loc) (ls : Array Slot), lv_has ls 7 [] → va_P (dC, dI) classes [(oM, .inr (5, [.int mth, .int mpl, .ref obd, .int msd, .int mrt, .int mps, .int mqt, .int mmd, .ref opa, .ref opS, .ref opR, .ref opG, .ref opP, .ref opQ, .ref okp, .ref okS, .ref okR, .ref okP, .ref okQ, .ref oli])), (obd, .inl (cI, 64, .inl bd)), (opa, .inl (cI, 9664, .inl pa)), (opS, .inl (cI, 151, .inl pS)), (opR, .inl (cI, 151, .inl pR)), (opG, .inl (cI, 151, .inl pG)), (opP, .inl (cI, 151, .inl pP)), (opQ, .inl (cI, 151, .inl pQ)), (okp, .inl (cI, 256, .inl kp)), (okS, .inl (cI, 4, .inl kS)), (okR, .inl (cI, 4, .inl kR)), (okP, .inl (cI, 4, .inl kP)), (okQ, .inl (cI, 4, .inl kQ)), (oli, .inl (cI, 1320, .inl li))] H → va_D A [(oM, .inr (5, [.int mth, .int mpl, .ref obd, .int msd, .int mrt, .int mps, .int mqt, .int mmd, .ref opa, .ref opS, .ref opR, .ref opG, .ref opP, .ref opQ, .ref okp, .ref okS, .ref okR, .ref okP, .ref okQ, .ref oli])), (obd, .inl (cI, 64, .inl bd)), (opa, .inl (cI, 9664, .inl pa)), (opS, .inl (cI, 151, .inl pS)), (opR, .inl (cI, 151, .inl pR)), (opG, .inl (cI, 151, .inl pG)), (opP, .inl (cI, 151, .inl pP)), (opQ, .inl (cI, 151, .inl pQ)), (okp, .inl (cI, 256, .inl kp)), (okS, .inl (cI, 4, .inl kS)), (okR, .inl (cI, 4, .inl kR)), (okP, .inl (cI, 4, .inl kP)), (okQ, .inl (cI, 4, .inl kQ)), (oli, .inl (cI, 1320, .inl li))] → va_S A s.heap H locs → bk_M_reaches_232 bd a1 a2 s0 = some rr → W p l e rm_M_reaches s m ([.ref oM, .int a1, .int a2] : List Value).toArray below meth c H locs 0 0 Q (F0 m 232 ls [.int s0]) := by
    intro s0 H locs ls hl hP hD hS hf
    rw [bk_M_reaches_232] at hf
    obtain ⟨hzb, hf⟩ := qq_ckE hf
    cases hf
    exact qq_zret hx hb hr (qq_bE hzb) hlocks hQ hP hD hK hS dd_M_reaches_232
  have hJ231 : ∀  (H : Heap) (locs : List Loc) (ls : Array Slot), lv_has ls 7 [] → va_P (dC, dI) classes [(oM, .inr (5, [.int mth, .int mpl, .ref obd, .int msd, .int mrt, .int mps, .int mqt, .int mmd, .ref opa, .ref opS, .ref opR, .ref opG, .ref opP, .ref opQ, .ref okp, .ref okS, .ref okR, .ref okP, .ref okQ, .ref oli])), (obd, .inl (cI, 64, .inl bd)), (opa, .inl (cI, 9664, .inl pa)), (opS, .inl (cI, 151, .inl pS)), (opR, .inl (cI, 151, .inl pR)), (opG, .inl (cI, 151, .inl pG)), (opP, .inl (cI, 151, .inl pP)), (opQ, .inl (cI, 151, .inl pQ)), (okp, .inl (cI, 256, .inl kp)), (okS, .inl (cI, 4, .inl kS)), (okR, .inl (cI, 4, .inl kR)), (okP, .inl (cI, 4, .inl kP)), (okQ, .inl (cI, 4, .inl kQ)), (oli, .inl (cI, 1320, .inl li))] H → va_D A [(oM, .inr (5, [.int mth, .int mpl, .ref obd, .int msd, .int mrt, .int mps, .int mqt, .int mmd, .ref opa, .ref opS, .ref opR, .ref opG, .ref opP, .ref opQ, .ref okp, .ref okS, .ref okR, .ref okP, .ref okQ, .ref oli])), (obd, .inl (cI, 64, .inl bd)), (opa, .inl (cI, 9664, .inl pa)), (opS, .inl (cI, 151, .inl pS)), (opR, .inl (cI, 151, .inl pR)), (opG, .inl (cI, 151, .inl pG)), (opP, .inl (cI, 151, .inl pP)), (opQ, .inl (cI, 151, .inl pQ)), (okp, .inl (cI, 256, .inl kp)), (okS, .inl (cI, 4, .inl kS)), (okR, .inl (cI, 4, .inl kR)), (okP, .inl (cI, 4, .inl kP)), (okQ, .inl (cI, 4, .inl kQ)), (oli, .inl (cI, 1320, .inl li))] → va_S A s.heap H locs → bk_M_reaches_231 bd a1 a2 = some rr → W p l e rm_M_reaches s m ([.ref oM, .int a1, .int a2] : List Value).toArray below meth c H locs 0 0 Q (F0 m 231 ls []) := by
    intro  H locs ls hl hP hD hS hf
    rw [bk_M_reaches_231] at hf
    refine lv_iconst (v := 0) hx hb dd_M_reaches_231 (by decide) ?_
    exact hJ232 0 _ _ _ (lv_sub hl [] rfl) hP hD hS hf
  have hJ218 : ∀  (H : Heap) (locs : List Loc) (ls : Array Slot), lv_has ls 7 [(0, .ref oM), (1, .int a1), (2, .int a2)] → va_P (dC, dI) classes [(oM, .inr (5, [.int mth, .int mpl, .ref obd, .int msd, .int mrt, .int mps, .int mqt, .int mmd, .ref opa, .ref opS, .ref opR, .ref opG, .ref opP, .ref opQ, .ref okp, .ref okS, .ref okR, .ref okP, .ref okQ, .ref oli])), (obd, .inl (cI, 64, .inl bd)), (opa, .inl (cI, 9664, .inl pa)), (opS, .inl (cI, 151, .inl pS)), (opR, .inl (cI, 151, .inl pR)), (opG, .inl (cI, 151, .inl pG)), (opP, .inl (cI, 151, .inl pP)), (opQ, .inl (cI, 151, .inl pQ)), (okp, .inl (cI, 256, .inl kp)), (okS, .inl (cI, 4, .inl kS)), (okR, .inl (cI, 4, .inl kR)), (okP, .inl (cI, 4, .inl kP)), (okQ, .inl (cI, 4, .inl kQ)), (oli, .inl (cI, 1320, .inl li))] H → va_D A [(oM, .inr (5, [.int mth, .int mpl, .ref obd, .int msd, .int mrt, .int mps, .int mqt, .int mmd, .ref opa, .ref opS, .ref opR, .ref opG, .ref opP, .ref opQ, .ref okp, .ref okS, .ref okR, .ref okP, .ref okQ, .ref oli])), (obd, .inl (cI, 64, .inl bd)), (opa, .inl (cI, 9664, .inl pa)), (opS, .inl (cI, 151, .inl pS)), (opR, .inl (cI, 151, .inl pR)), (opG, .inl (cI, 151, .inl pG)), (opP, .inl (cI, 151, .inl pP)), (opQ, .inl (cI, 151, .inl pQ)), (okp, .inl (cI, 256, .inl kp)), (okS, .inl (cI, 4, .inl kS)), (okR, .inl (cI, 4, .inl kR)), (okP, .inl (cI, 4, .inl kP)), (okQ, .inl (cI, 4, .inl kQ)), (oli, .inl (cI, 1320, .inl li))] → va_S A s.heap H locs → bk_M_reaches_218 bd a1 a2 = some rr → W p l e rm_M_reaches s m ([.ref oM, .int a1, .int a2] : List Value).toArray below meth c H locs 0 0 Q (F0 m 218 ls []) := by
    intro  H locs ls hl hP hD hS hf
    rw [bk_M_reaches_218] at hf
    refine lv_aload_n hx hb dd_M_reaches_218 rfl (lv_at hl 0 rfl) ?_
    refine lv_iload_n hx hb dd_M_reaches_219 rfl (lv_at hl 1 rfl) ?_
    refine lv_iload_n hx hb dd_M_reaches_220 rfl (lv_at hl 2 rfl) ?_
    obtain ⟨r5001, hy5001, hf⟩ := qq_bd hf
    refine qq_V (As := [.int a1, .int a2]) (rest := []) (wr := []) (wf := [(oM, .inr (5, [.int mth, .int mpl, .ref obd, .int msd, .int mrt, .int mps, .int mqt, .int mmd, .ref opa, .ref opS, .ref opR, .ref opG, .ref opP, .ref opQ, .ref okp, .ref okS, .ref okR, .ref okP, .ref okQ, .ref oli])), (obd, .inl (cI, 64, .inl bd)), (opa, .inl (cI, 9664, .inl pa)), (opS, .inl (cI, 151, .inl pS)), (opR, .inl (cI, 151, .inl pR)), (opG, .inl (cI, 151, .inl pG)), (opP, .inl (cI, 151, .inl pP)), (opQ, .inl (cI, 151, .inl pQ)), (okp, .inl (cI, 256, .inl kp)), (okS, .inl (cI, 4, .inl kS)), (okR, .inl (cI, 4, .inl kR)), (okP, .inl (cI, 4, .inl kP)), (okQ, .inl (cI, 4, .inl kQ)), (oli, .inl (cI, 1320, .inl li))]) ⟨hx, hb, hml, hown, hts⟩ (ct_M_free l dC dI cI cL cR oM obd opa opS opR opG opP opQ okp okS okR okP okQ oli mth mpl msd mrt mps mqt mmd bd pa pS pR pG pP pQ kp kS kR kP kQ li a1 a2 hy5001) mm_215 mm_216 mm_217 mm_214 mm_211 hd_M_free (by decide) qq_00 hP hD hK hS hA hT hN (q0 := 0) (ci := 5) rfl rfl [0, 1, 2, 3, 4, 5, 6, 7, 8, 9, 10, 11, 12, 13] [] [0, 1, 2, 3, 4, 5, 6, 7, 8, 9, 10, 11, 12, 13] rfl rfl rfl (by decide) rfl hl.1 rfl (Nat.le_of_ble_eq_true rfl) dd_M_reaches_221 (fun H locs hP hD hS => ?_)
    refine W.eq (g2 := F0 m 224 ls [.int r5001]) rfl ?_
    refine lv_if_eq (tgt := 231) hx hb dd_M_reaches_224 (by decide) (fun hc => ?_) (fun hc => ?_)
    · replace hf := qq_t hc hf
      exact hJ231  _ _ _ (lv_sub hl [] rfl) hP hD hS hf
    · replace hf := qq_f hc hf
      refine lv_iconst (v := 1) hx hb dd_M_reaches_227 (by decide) ?_
      refine lv_goto (tgt := 232) hx hb dd_M_reaches_228 (by decide) ?_
      exact hJ232 1 _ _ _ (lv_sub hl [] rfl) hP hD hS hf
  have hJ207 : ∀ (s0 : Int32) (H : Heap) (locs : List Loc) (ls : Array Slot), lv_has ls 7 [] → va_P (dC, dI) classes [(oM, .inr (5, [.int mth, .int mpl, .ref obd, .int msd, .int mrt, .int mps, .int mqt, .int mmd, .ref opa, .ref opS, .ref opR, .ref opG, .ref opP, .ref opQ, .ref okp, .ref okS, .ref okR, .ref okP, .ref okQ, .ref oli])), (obd, .inl (cI, 64, .inl bd)), (opa, .inl (cI, 9664, .inl pa)), (opS, .inl (cI, 151, .inl pS)), (opR, .inl (cI, 151, .inl pR)), (opG, .inl (cI, 151, .inl pG)), (opP, .inl (cI, 151, .inl pP)), (opQ, .inl (cI, 151, .inl pQ)), (okp, .inl (cI, 256, .inl kp)), (okS, .inl (cI, 4, .inl kS)), (okR, .inl (cI, 4, .inl kR)), (okP, .inl (cI, 4, .inl kP)), (okQ, .inl (cI, 4, .inl kQ)), (oli, .inl (cI, 1320, .inl li))] H → va_D A [(oM, .inr (5, [.int mth, .int mpl, .ref obd, .int msd, .int mrt, .int mps, .int mqt, .int mmd, .ref opa, .ref opS, .ref opR, .ref opG, .ref opP, .ref opQ, .ref okp, .ref okS, .ref okR, .ref okP, .ref okQ, .ref oli])), (obd, .inl (cI, 64, .inl bd)), (opa, .inl (cI, 9664, .inl pa)), (opS, .inl (cI, 151, .inl pS)), (opR, .inl (cI, 151, .inl pR)), (opG, .inl (cI, 151, .inl pG)), (opP, .inl (cI, 151, .inl pP)), (opQ, .inl (cI, 151, .inl pQ)), (okp, .inl (cI, 256, .inl kp)), (okS, .inl (cI, 4, .inl kS)), (okR, .inl (cI, 4, .inl kR)), (okP, .inl (cI, 4, .inl kP)), (okQ, .inl (cI, 4, .inl kQ)), (oli, .inl (cI, 1320, .inl li))] → va_S A s.heap H locs → bk_M_reaches_207 bd a1 a2 s0 = some rr → W p l e rm_M_reaches s m ([.ref oM, .int a1, .int a2] : List Value).toArray below meth c H locs 0 0 Q (F0 m 207 ls [.int s0]) := by
    intro s0 H locs ls hl hP hD hS hf
    rw [bk_M_reaches_207] at hf
    obtain ⟨hzb, hf⟩ := qq_ckE hf
    cases hf
    exact qq_zret hx hb hr (qq_bE hzb) hlocks hQ hP hD hK hS dd_M_reaches_207
  have hJ206 : ∀  (H : Heap) (locs : List Loc) (ls : Array Slot), lv_has ls 7 [] → va_P (dC, dI) classes [(oM, .inr (5, [.int mth, .int mpl, .ref obd, .int msd, .int mrt, .int mps, .int mqt, .int mmd, .ref opa, .ref opS, .ref opR, .ref opG, .ref opP, .ref opQ, .ref okp, .ref okS, .ref okR, .ref okP, .ref okQ, .ref oli])), (obd, .inl (cI, 64, .inl bd)), (opa, .inl (cI, 9664, .inl pa)), (opS, .inl (cI, 151, .inl pS)), (opR, .inl (cI, 151, .inl pR)), (opG, .inl (cI, 151, .inl pG)), (opP, .inl (cI, 151, .inl pP)), (opQ, .inl (cI, 151, .inl pQ)), (okp, .inl (cI, 256, .inl kp)), (okS, .inl (cI, 4, .inl kS)), (okR, .inl (cI, 4, .inl kR)), (okP, .inl (cI, 4, .inl kP)), (okQ, .inl (cI, 4, .inl kQ)), (oli, .inl (cI, 1320, .inl li))] H → va_D A [(oM, .inr (5, [.int mth, .int mpl, .ref obd, .int msd, .int mrt, .int mps, .int mqt, .int mmd, .ref opa, .ref opS, .ref opR, .ref opG, .ref opP, .ref opQ, .ref okp, .ref okS, .ref okR, .ref okP, .ref okQ, .ref oli])), (obd, .inl (cI, 64, .inl bd)), (opa, .inl (cI, 9664, .inl pa)), (opS, .inl (cI, 151, .inl pS)), (opR, .inl (cI, 151, .inl pR)), (opG, .inl (cI, 151, .inl pG)), (opP, .inl (cI, 151, .inl pP)), (opQ, .inl (cI, 151, .inl pQ)), (okp, .inl (cI, 256, .inl kp)), (okS, .inl (cI, 4, .inl kS)), (okR, .inl (cI, 4, .inl kR)), (okP, .inl (cI, 4, .inl kP)), (okQ, .inl (cI, 4, .inl kQ)), (oli, .inl (cI, 1320, .inl li))] → va_S A s.heap H locs → bk_M_reaches_206 bd a1 a2 = some rr → W p l e rm_M_reaches s m ([.ref oM, .int a1, .int a2] : List Value).toArray below meth c H locs 0 0 Q (F0 m 206 ls []) := by
    intro  H locs ls hl hP hD hS hf
    rw [bk_M_reaches_206] at hf
    refine lv_iconst (v := 0) hx hb dd_M_reaches_206 (by decide) ?_
    exact hJ207 0 _ _ _ (lv_sub hl [] rfl) hP hD hS hf
  have hJ187 : ∀ (s0 : Int32) (H : Heap) (locs : List Loc) (ls : Array Slot), lv_has ls 7 [] → va_P (dC, dI) classes [(oM, .inr (5, [.int mth, .int mpl, .ref obd, .int msd, .int mrt, .int mps, .int mqt, .int mmd, .ref opa, .ref opS, .ref opR, .ref opG, .ref opP, .ref opQ, .ref okp, .ref okS, .ref okR, .ref okP, .ref okQ, .ref oli])), (obd, .inl (cI, 64, .inl bd)), (opa, .inl (cI, 9664, .inl pa)), (opS, .inl (cI, 151, .inl pS)), (opR, .inl (cI, 151, .inl pR)), (opG, .inl (cI, 151, .inl pG)), (opP, .inl (cI, 151, .inl pP)), (opQ, .inl (cI, 151, .inl pQ)), (okp, .inl (cI, 256, .inl kp)), (okS, .inl (cI, 4, .inl kS)), (okR, .inl (cI, 4, .inl kR)), (okP, .inl (cI, 4, .inl kP)), (okQ, .inl (cI, 4, .inl kQ)), (oli, .inl (cI, 1320, .inl li))] H → va_D A [(oM, .inr (5, [.int mth, .int mpl, .ref obd, .int msd, .int mrt, .int mps, .int mqt, .int mmd, .ref opa, .ref opS, .ref opR, .ref opG, .ref opP, .ref opQ, .ref okp, .ref okS, .ref okR, .ref okP, .ref okQ, .ref oli])), (obd, .inl (cI, 64, .inl bd)), (opa, .inl (cI, 9664, .inl pa)), (opS, .inl (cI, 151, .inl pS)), (opR, .inl (cI, 151, .inl pR)), (opG, .inl (cI, 151, .inl pG)), (opP, .inl (cI, 151, .inl pP)), (opQ, .inl (cI, 151, .inl pQ)), (okp, .inl (cI, 256, .inl kp)), (okS, .inl (cI, 4, .inl kS)), (okR, .inl (cI, 4, .inl kR)), (okP, .inl (cI, 4, .inl kP)), (okQ, .inl (cI, 4, .inl kQ)), (oli, .inl (cI, 1320, .inl li))] → va_S A s.heap H locs → bk_M_reaches_187 bd a1 a2 s0 = some rr → W p l e rm_M_reaches s m ([.ref oM, .int a1, .int a2] : List Value).toArray below meth c H locs 0 0 Q (F0 m 187 ls [.int s0]) := by
    intro s0 H locs ls hl hP hD hS hf
    rw [bk_M_reaches_187] at hf
    obtain ⟨hzb, hf⟩ := qq_ckE hf
    cases hf
    exact qq_zret hx hb hr (qq_bE hzb) hlocks hQ hP hD hK hS dd_M_reaches_187
  have hJ186 : ∀  (H : Heap) (locs : List Loc) (ls : Array Slot), lv_has ls 7 [] → va_P (dC, dI) classes [(oM, .inr (5, [.int mth, .int mpl, .ref obd, .int msd, .int mrt, .int mps, .int mqt, .int mmd, .ref opa, .ref opS, .ref opR, .ref opG, .ref opP, .ref opQ, .ref okp, .ref okS, .ref okR, .ref okP, .ref okQ, .ref oli])), (obd, .inl (cI, 64, .inl bd)), (opa, .inl (cI, 9664, .inl pa)), (opS, .inl (cI, 151, .inl pS)), (opR, .inl (cI, 151, .inl pR)), (opG, .inl (cI, 151, .inl pG)), (opP, .inl (cI, 151, .inl pP)), (opQ, .inl (cI, 151, .inl pQ)), (okp, .inl (cI, 256, .inl kp)), (okS, .inl (cI, 4, .inl kS)), (okR, .inl (cI, 4, .inl kR)), (okP, .inl (cI, 4, .inl kP)), (okQ, .inl (cI, 4, .inl kQ)), (oli, .inl (cI, 1320, .inl li))] H → va_D A [(oM, .inr (5, [.int mth, .int mpl, .ref obd, .int msd, .int mrt, .int mps, .int mqt, .int mmd, .ref opa, .ref opS, .ref opR, .ref opG, .ref opP, .ref opQ, .ref okp, .ref okS, .ref okR, .ref okP, .ref okQ, .ref oli])), (obd, .inl (cI, 64, .inl bd)), (opa, .inl (cI, 9664, .inl pa)), (opS, .inl (cI, 151, .inl pS)), (opR, .inl (cI, 151, .inl pR)), (opG, .inl (cI, 151, .inl pG)), (opP, .inl (cI, 151, .inl pP)), (opQ, .inl (cI, 151, .inl pQ)), (okp, .inl (cI, 256, .inl kp)), (okS, .inl (cI, 4, .inl kS)), (okR, .inl (cI, 4, .inl kR)), (okP, .inl (cI, 4, .inl kP)), (okQ, .inl (cI, 4, .inl kQ)), (oli, .inl (cI, 1320, .inl li))] → va_S A s.heap H locs → bk_M_reaches_186 bd a1 a2 = some rr → W p l e rm_M_reaches s m ([.ref oM, .int a1, .int a2] : List Value).toArray below meth c H locs 0 0 Q (F0 m 186 ls []) := by
    intro  H locs ls hl hP hD hS hf
    rw [bk_M_reaches_186] at hf
    refine lv_iconst (v := 0) hx hb dd_M_reaches_186 (by decide) ?_
    exact hJ187 0 _ _ _ (lv_sub hl [] rfl) hP hD hS hf
  have hJ167 : ∀ (s0 : Int32) (H : Heap) (locs : List Loc) (ls : Array Slot), lv_has ls 7 [] → va_P (dC, dI) classes [(oM, .inr (5, [.int mth, .int mpl, .ref obd, .int msd, .int mrt, .int mps, .int mqt, .int mmd, .ref opa, .ref opS, .ref opR, .ref opG, .ref opP, .ref opQ, .ref okp, .ref okS, .ref okR, .ref okP, .ref okQ, .ref oli])), (obd, .inl (cI, 64, .inl bd)), (opa, .inl (cI, 9664, .inl pa)), (opS, .inl (cI, 151, .inl pS)), (opR, .inl (cI, 151, .inl pR)), (opG, .inl (cI, 151, .inl pG)), (opP, .inl (cI, 151, .inl pP)), (opQ, .inl (cI, 151, .inl pQ)), (okp, .inl (cI, 256, .inl kp)), (okS, .inl (cI, 4, .inl kS)), (okR, .inl (cI, 4, .inl kR)), (okP, .inl (cI, 4, .inl kP)), (okQ, .inl (cI, 4, .inl kQ)), (oli, .inl (cI, 1320, .inl li))] H → va_D A [(oM, .inr (5, [.int mth, .int mpl, .ref obd, .int msd, .int mrt, .int mps, .int mqt, .int mmd, .ref opa, .ref opS, .ref opR, .ref opG, .ref opP, .ref opQ, .ref okp, .ref okS, .ref okR, .ref okP, .ref okQ, .ref oli])), (obd, .inl (cI, 64, .inl bd)), (opa, .inl (cI, 9664, .inl pa)), (opS, .inl (cI, 151, .inl pS)), (opR, .inl (cI, 151, .inl pR)), (opG, .inl (cI, 151, .inl pG)), (opP, .inl (cI, 151, .inl pP)), (opQ, .inl (cI, 151, .inl pQ)), (okp, .inl (cI, 256, .inl kp)), (okS, .inl (cI, 4, .inl kS)), (okR, .inl (cI, 4, .inl kR)), (okP, .inl (cI, 4, .inl kP)), (okQ, .inl (cI, 4, .inl kQ)), (oli, .inl (cI, 1320, .inl li))] → va_S A s.heap H locs → bk_M_reaches_167 bd a1 a2 s0 = some rr → W p l e rm_M_reaches s m ([.ref oM, .int a1, .int a2] : List Value).toArray below meth c H locs 0 0 Q (F0 m 167 ls [.int s0]) := by
    intro s0 H locs ls hl hP hD hS hf
    rw [bk_M_reaches_167] at hf
    obtain ⟨hzb, hf⟩ := qq_ckE hf
    cases hf
    exact qq_zret hx hb hr (qq_bE hzb) hlocks hQ hP hD hK hS dd_M_reaches_167
  have hJ153 : ∀ (s0 : Int32) (H : Heap) (locs : List Loc) (ls : Array Slot), lv_has ls 7 [] → va_P (dC, dI) classes [(oM, .inr (5, [.int mth, .int mpl, .ref obd, .int msd, .int mrt, .int mps, .int mqt, .int mmd, .ref opa, .ref opS, .ref opR, .ref opG, .ref opP, .ref opQ, .ref okp, .ref okS, .ref okR, .ref okP, .ref okQ, .ref oli])), (obd, .inl (cI, 64, .inl bd)), (opa, .inl (cI, 9664, .inl pa)), (opS, .inl (cI, 151, .inl pS)), (opR, .inl (cI, 151, .inl pR)), (opG, .inl (cI, 151, .inl pG)), (opP, .inl (cI, 151, .inl pP)), (opQ, .inl (cI, 151, .inl pQ)), (okp, .inl (cI, 256, .inl kp)), (okS, .inl (cI, 4, .inl kS)), (okR, .inl (cI, 4, .inl kR)), (okP, .inl (cI, 4, .inl kP)), (okQ, .inl (cI, 4, .inl kQ)), (oli, .inl (cI, 1320, .inl li))] H → va_D A [(oM, .inr (5, [.int mth, .int mpl, .ref obd, .int msd, .int mrt, .int mps, .int mqt, .int mmd, .ref opa, .ref opS, .ref opR, .ref opG, .ref opP, .ref opQ, .ref okp, .ref okS, .ref okR, .ref okP, .ref okQ, .ref oli])), (obd, .inl (cI, 64, .inl bd)), (opa, .inl (cI, 9664, .inl pa)), (opS, .inl (cI, 151, .inl pS)), (opR, .inl (cI, 151, .inl pR)), (opG, .inl (cI, 151, .inl pG)), (opP, .inl (cI, 151, .inl pP)), (opQ, .inl (cI, 151, .inl pQ)), (okp, .inl (cI, 256, .inl kp)), (okS, .inl (cI, 4, .inl kS)), (okR, .inl (cI, 4, .inl kR)), (okP, .inl (cI, 4, .inl kP)), (okQ, .inl (cI, 4, .inl kQ)), (oli, .inl (cI, 1320, .inl li))] → va_S A s.heap H locs → bk_M_reaches_153 bd a1 a2 s0 = some rr → W p l e rm_M_reaches s m ([.ref oM, .int a1, .int a2] : List Value).toArray below meth c H locs 0 0 Q (F0 m 153 ls [.int s0]) := by
    intro s0 H locs ls hl hP hD hS hf
    rw [bk_M_reaches_153] at hf
    obtain ⟨hzb, hf⟩ := qq_ckE hf
    cases hf
    exact qq_zret hx hb hr (qq_bE hzb) hlocks hQ hP hD hK hS dd_M_reaches_153
  have hJ152 : ∀  (H : Heap) (locs : List Loc) (ls : Array Slot), lv_has ls 7 [] → va_P (dC, dI) classes [(oM, .inr (5, [.int mth, .int mpl, .ref obd, .int msd, .int mrt, .int mps, .int mqt, .int mmd, .ref opa, .ref opS, .ref opR, .ref opG, .ref opP, .ref opQ, .ref okp, .ref okS, .ref okR, .ref okP, .ref okQ, .ref oli])), (obd, .inl (cI, 64, .inl bd)), (opa, .inl (cI, 9664, .inl pa)), (opS, .inl (cI, 151, .inl pS)), (opR, .inl (cI, 151, .inl pR)), (opG, .inl (cI, 151, .inl pG)), (opP, .inl (cI, 151, .inl pP)), (opQ, .inl (cI, 151, .inl pQ)), (okp, .inl (cI, 256, .inl kp)), (okS, .inl (cI, 4, .inl kS)), (okR, .inl (cI, 4, .inl kR)), (okP, .inl (cI, 4, .inl kP)), (okQ, .inl (cI, 4, .inl kQ)), (oli, .inl (cI, 1320, .inl li))] H → va_D A [(oM, .inr (5, [.int mth, .int mpl, .ref obd, .int msd, .int mrt, .int mps, .int mqt, .int mmd, .ref opa, .ref opS, .ref opR, .ref opG, .ref opP, .ref opQ, .ref okp, .ref okS, .ref okR, .ref okP, .ref okQ, .ref oli])), (obd, .inl (cI, 64, .inl bd)), (opa, .inl (cI, 9664, .inl pa)), (opS, .inl (cI, 151, .inl pS)), (opR, .inl (cI, 151, .inl pR)), (opG, .inl (cI, 151, .inl pG)), (opP, .inl (cI, 151, .inl pP)), (opQ, .inl (cI, 151, .inl pQ)), (okp, .inl (cI, 256, .inl kp)), (okS, .inl (cI, 4, .inl kS)), (okR, .inl (cI, 4, .inl kR)), (okP, .inl (cI, 4, .inl kP)), (okQ, .inl (cI, 4, .inl kQ)), (oli, .inl (cI, 1320, .inl li))] → va_S A s.heap H locs → bk_M_reaches_152 bd a1 a2 = some rr → W p l e rm_M_reaches s m ([.ref oM, .int a1, .int a2] : List Value).toArray below meth c H locs 0 0 Q (F0 m 152 ls []) := by
    intro  H locs ls hl hP hD hS hf
    rw [bk_M_reaches_152] at hf
    refine lv_iconst (v := 0) hx hb dd_M_reaches_152 (by decide) ?_
    exact hJ153 0 _ _ _ (lv_sub hl [] rfl) hP hD hS hf
  have hJ142 : ∀ (s0 : Int32) (s1 : Int32) (H : Heap) (locs : List Loc) (ls : Array Slot), lv_has ls 7 [] → va_P (dC, dI) classes [(oM, .inr (5, [.int mth, .int mpl, .ref obd, .int msd, .int mrt, .int mps, .int mqt, .int mmd, .ref opa, .ref opS, .ref opR, .ref opG, .ref opP, .ref opQ, .ref okp, .ref okS, .ref okR, .ref okP, .ref okQ, .ref oli])), (obd, .inl (cI, 64, .inl bd)), (opa, .inl (cI, 9664, .inl pa)), (opS, .inl (cI, 151, .inl pS)), (opR, .inl (cI, 151, .inl pR)), (opG, .inl (cI, 151, .inl pG)), (opP, .inl (cI, 151, .inl pP)), (opQ, .inl (cI, 151, .inl pQ)), (okp, .inl (cI, 256, .inl kp)), (okS, .inl (cI, 4, .inl kS)), (okR, .inl (cI, 4, .inl kR)), (okP, .inl (cI, 4, .inl kP)), (okQ, .inl (cI, 4, .inl kQ)), (oli, .inl (cI, 1320, .inl li))] H → va_D A [(oM, .inr (5, [.int mth, .int mpl, .ref obd, .int msd, .int mrt, .int mps, .int mqt, .int mmd, .ref opa, .ref opS, .ref opR, .ref opG, .ref opP, .ref opQ, .ref okp, .ref okS, .ref okR, .ref okP, .ref okQ, .ref oli])), (obd, .inl (cI, 64, .inl bd)), (opa, .inl (cI, 9664, .inl pa)), (opS, .inl (cI, 151, .inl pS)), (opR, .inl (cI, 151, .inl pR)), (opG, .inl (cI, 151, .inl pG)), (opP, .inl (cI, 151, .inl pP)), (opQ, .inl (cI, 151, .inl pQ)), (okp, .inl (cI, 256, .inl kp)), (okS, .inl (cI, 4, .inl kS)), (okR, .inl (cI, 4, .inl kR)), (okP, .inl (cI, 4, .inl kP)), (okQ, .inl (cI, 4, .inl kQ)), (oli, .inl (cI, 1320, .inl li))] → va_S A s.heap H locs → bk_M_reaches_142 bd a1 a2 s0 s1 = some rr → W p l e rm_M_reaches s m ([.ref oM, .int a1, .int a2] : List Value).toArray below meth c H locs 0 0 Q (F0 m 142 ls [.int s1, .int s0]) := by
    intro s0 s1 H locs ls hl hP hD hS hf
    rw [bk_M_reaches_142] at hf
    obtain ⟨r13001, hy13001, hf⟩ := qq_bd hf
    refine qq_S (As := [.int s1]) (rest := [.int s0]) (wr := [(oM, .inr (5, [.int mth, .int mpl, .ref obd, .int msd, .int mrt, .int mps, .int mqt, .int mmd, .ref opa, .ref opS, .ref opR, .ref opG, .ref opP, .ref opQ, .ref okp, .ref okS, .ref okR, .ref okP, .ref okQ, .ref oli])), (obd, .inl (cI, 64, .inl bd)), (opa, .inl (cI, 9664, .inl pa)), (opS, .inl (cI, 151, .inl pS)), (opR, .inl (cI, 151, .inl pR)), (opG, .inl (cI, 151, .inl pG)), (opP, .inl (cI, 151, .inl pP)), (opQ, .inl (cI, 151, .inl pQ)), (okp, .inl (cI, 256, .inl kp)), (okS, .inl (cI, 4, .inl kS)), (okR, .inl (cI, 4, .inl kR)), (okP, .inl (cI, 4, .inl kP)), (okQ, .inl (cI, 4, .inl kQ)), (oli, .inl (cI, 1320, .inl li))]) (wf := [(oM, .inr (5, [.int mth, .int mpl, .ref obd, .int msd, .int mrt, .int mps, .int mqt, .int mmd, .ref opa, .ref opS, .ref opR, .ref opG, .ref opP, .ref opQ, .ref okp, .ref okS, .ref okR, .ref okP, .ref okQ, .ref oli])), (obd, .inl (cI, 64, .inl bd)), (opa, .inl (cI, 9664, .inl pa)), (opS, .inl (cI, 151, .inl pS)), (opR, .inl (cI, 151, .inl pR)), (opG, .inl (cI, 151, .inl pG)), (opP, .inl (cI, 151, .inl pP)), (opQ, .inl (cI, 151, .inl pQ)), (okp, .inl (cI, 256, .inl kp)), (okS, .inl (cI, 4, .inl kS)), (okR, .inl (cI, 4, .inl kR)), (okP, .inl (cI, 4, .inl kP)), (okQ, .inl (cI, 4, .inl kQ)), (oli, .inl (cI, 1320, .inl li))]) ⟨hx, hb, hml, hown, hts⟩ (ct_M_ahead l dC dI cI cL cR s1 hy13001) mm_219 mm_220 mm_218 mm_211 hd_M_ahead (by decide) qq_00 hP hD hK hS hA hT hN [] [0, 1, 2, 3, 4, 5, 6, 7, 8, 9, 10, 11, 12, 13] [0, 1, 2, 3, 4, 5, 6, 7, 8, 9, 10, 11, 12, 13] rfl rfl rfl (by decide) rfl hl.1 rfl (Nat.le_of_ble_eq_true rfl) dd_M_reaches_142 (fun H locs hP hD hS => ?_)
    refine W.eq (g2 := F0 m 145 ls [.int r13001, .int s0]) rfl ?_
    refine lv_icmp_ne (tgt := 152) hx hb dd_M_reaches_145 (by decide) (fun hc => ?_) (fun hc => ?_)
    · replace hf := qq_f hc hf
      exact hJ152  _ _ _ (lv_sub hl [] rfl) hP hD hS hf
    · replace hf := qq_t hc hf
      refine lv_iconst (v := 1) hx hb dd_M_reaches_148 (by decide) ?_
      refine lv_goto (tgt := 153) hx hb dd_M_reaches_149 (by decide) ?_
      exact hJ153 1 _ _ _ (lv_sub hl [] rfl) hP hD hS hf
  have hJ64 : ∀ (x3 : Int32) (x4 : Int32) (x5 : Int32) (s0 : Int32) (H : Heap) (locs : List Loc) (ls : Array Slot), lv_has ls 7 [(0, .ref oM), (1, .int a1), (2, .int a2), (3, .int x3), (4, .int x4), (5, .int x5)] → va_P (dC, dI) classes [(oM, .inr (5, [.int mth, .int mpl, .ref obd, .int msd, .int mrt, .int mps, .int mqt, .int mmd, .ref opa, .ref opS, .ref opR, .ref opG, .ref opP, .ref opQ, .ref okp, .ref okS, .ref okR, .ref okP, .ref okQ, .ref oli])), (obd, .inl (cI, 64, .inl bd)), (opa, .inl (cI, 9664, .inl pa)), (opS, .inl (cI, 151, .inl pS)), (opR, .inl (cI, 151, .inl pR)), (opG, .inl (cI, 151, .inl pG)), (opP, .inl (cI, 151, .inl pP)), (opQ, .inl (cI, 151, .inl pQ)), (okp, .inl (cI, 256, .inl kp)), (okS, .inl (cI, 4, .inl kS)), (okR, .inl (cI, 4, .inl kR)), (okP, .inl (cI, 4, .inl kP)), (okQ, .inl (cI, 4, .inl kQ)), (oli, .inl (cI, 1320, .inl li))] H → va_D A [(oM, .inr (5, [.int mth, .int mpl, .ref obd, .int msd, .int mrt, .int mps, .int mqt, .int mmd, .ref opa, .ref opS, .ref opR, .ref opG, .ref opP, .ref opQ, .ref okp, .ref okS, .ref okR, .ref okP, .ref okQ, .ref oli])), (obd, .inl (cI, 64, .inl bd)), (opa, .inl (cI, 9664, .inl pa)), (opS, .inl (cI, 151, .inl pS)), (opR, .inl (cI, 151, .inl pR)), (opG, .inl (cI, 151, .inl pG)), (opP, .inl (cI, 151, .inl pP)), (opQ, .inl (cI, 151, .inl pQ)), (okp, .inl (cI, 256, .inl kp)), (okS, .inl (cI, 4, .inl kS)), (okR, .inl (cI, 4, .inl kR)), (okP, .inl (cI, 4, .inl kP)), (okQ, .inl (cI, 4, .inl kQ)), (oli, .inl (cI, 1320, .inl li))] → va_S A s.heap H locs → bk_M_reaches_64 bd a1 a2 x3 x4 x5 s0 = some rr → W p l e rm_M_reaches s m ([.ref oM, .int a1, .int a2] : List Value).toArray below meth c H locs 0 0 Q (F0 m 64 ls [.int s0]) := by
    intro x3 x4 x5 s0 H locs ls hl hP hD hS hf
    rw [bk_M_reaches_64] at hf
    refine lv_istore (lv' := [(6, .int s0), (0, .ref oM), (1, .int a1), (2, .int a2), (3, .int x3), (4, .int x4), (5, .int x5)]) hx hb dd_M_reaches_64 hl (by decide) rfl (fun ls hl => ?_)
    refine lv_aload_n hx hb dd_M_reaches_66 rfl (lv_at hl 1 rfl) ?_
    refine va_get (D := (dC, dI)) (ci := 5) (v := .ref obd) (C := RR_M) (T := FF_M) (N := 20) hx hb hts uu_M hown hK hP 0 rfl rfl 2 (by decide) (hts _ mm_209) (fun _ h9 => h9) rfl dd_M_reaches_67 ?_
    refine lv_iload_n hx hb dd_M_reaches_70 rfl (lv_at hl 2 rfl) ?_
    obtain ⟨hi14001, hf⟩ := qq_ckE hf
    refine va_iald (D := (dC, dI)) (f := bd) (n := 64) (cA := cI) hx hb hK hP 1 0 rfl rfl (qq_inE hi14001) dd_M_reaches_71 ?_
    obtain ⟨r14002, hy14002, hf⟩ := qq_bd hf
    refine qq_S (As := [.int (bd a1.toNatClampNeg)]) (rest := []) (wr := [(oM, .inr (5, [.int mth, .int mpl, .ref obd, .int msd, .int mrt, .int mps, .int mqt, .int mmd, .ref opa, .ref opS, .ref opR, .ref opG, .ref opP, .ref opQ, .ref okp, .ref okS, .ref okR, .ref okP, .ref okQ, .ref oli])), (obd, .inl (cI, 64, .inl bd)), (opa, .inl (cI, 9664, .inl pa)), (opS, .inl (cI, 151, .inl pS)), (opR, .inl (cI, 151, .inl pR)), (opG, .inl (cI, 151, .inl pG)), (opP, .inl (cI, 151, .inl pP)), (opQ, .inl (cI, 151, .inl pQ)), (okp, .inl (cI, 256, .inl kp)), (okS, .inl (cI, 4, .inl kS)), (okR, .inl (cI, 4, .inl kR)), (okP, .inl (cI, 4, .inl kP)), (okQ, .inl (cI, 4, .inl kQ)), (oli, .inl (cI, 1320, .inl li))]) (wf := [(oM, .inr (5, [.int mth, .int mpl, .ref obd, .int msd, .int mrt, .int mps, .int mqt, .int mmd, .ref opa, .ref opS, .ref opR, .ref opG, .ref opP, .ref opQ, .ref okp, .ref okS, .ref okR, .ref okP, .ref okQ, .ref oli])), (obd, .inl (cI, 64, .inl bd)), (opa, .inl (cI, 9664, .inl pa)), (opS, .inl (cI, 151, .inl pS)), (opR, .inl (cI, 151, .inl pR)), (opG, .inl (cI, 151, .inl pG)), (opP, .inl (cI, 151, .inl pP)), (opQ, .inl (cI, 151, .inl pQ)), (okp, .inl (cI, 256, .inl kp)), (okS, .inl (cI, 4, .inl kS)), (okR, .inl (cI, 4, .inl kR)), (okP, .inl (cI, 4, .inl kP)), (okQ, .inl (cI, 4, .inl kQ)), (oli, .inl (cI, 1320, .inl li))]) ⟨hx, hb, hml, hown, hts⟩ (ct_M_kindOf l dC dI cI cL cR (bd a1.toNatClampNeg) hy14002) mm_222 mm_223 mm_221 mm_211 hd_M_kindOf (by decide) qq_00 hP hD hK hS hA hT hN [] [0, 1, 2, 3, 4, 5, 6, 7, 8, 9, 10, 11, 12, 13] [0, 1, 2, 3, 4, 5, 6, 7, 8, 9, 10, 11, 12, 13] rfl rfl rfl (by decide) rfl hl.1 rfl (Nat.le_of_ble_eq_true rfl) dd_M_reaches_72 (fun H locs hP hD hS => ?_)
    refine W.eq (g2 := F0 m 75 ls [.int r14002]) rfl ?_
    by_cases hk0 : r14002 = 1
    · replace hf := qq_t hk0 hf
      refine lv_tableIn (tgt := 112) (off := 37) hx hb dd_M_reaches_75 (by rw [hk0]; decide) (by rw [hk0]; decide) (by rw [hk0]; decide) (by decide) ?_
      refine lv_iload_n hx hb dd_M_reaches_112 rfl (lv_at hl 4 rfl) ?_
      refine lv_iconst (v := 1) hx hb dd_M_reaches_113 (by decide) ?_
      refine lv_icmp_ne (tgt := 152) hx hb dd_M_reaches_114 (by decide) (fun hc => ?_) (fun hc => ?_)
      · replace hf := qq_f hc hf
        exact hJ152  _ _ _ (lv_sub hl [] rfl) hP hD hS hf
      · replace hf := qq_t hc hf
        refine lv_iload_n hx hb dd_M_reaches_117 rfl (lv_at hl 3 rfl) ?_
        refine lv_bipush (v := 8) hx hb dd_M_reaches_118 (by decide) ?_
        refine lv_idiv hx hb dd_M_reaches_120 (by decide) ?_
        refine lv_iload_n hx hb dd_M_reaches_121 rfl (lv_at hl 2 rfl) ?_
        refine lv_bipush (v := 8) hx hb dd_M_reaches_122 (by decide) ?_
        refine lv_idiv hx hb dd_M_reaches_124 (by decide) ?_
        refine lv_isub hx hb dd_M_reaches_125 ?_
        refine lv_aload_n hx hb dd_M_reaches_126 rfl (lv_at hl 1 rfl) ?_
        refine va_get (D := (dC, dI)) (ci := 5) (v := .ref obd) (C := RR_M) (T := FF_M) (N := 20) hx hb hts uu_M hown hK hP 0 rfl rfl 2 (by decide) (hts _ mm_209) (fun _ h9 => h9) rfl dd_M_reaches_127 ?_
        refine lv_iload_n hx hb dd_M_reaches_130 rfl (lv_at hl 2 rfl) ?_
        obtain ⟨hi14003, hf⟩ := qq_ckE hf
        refine va_iald (D := (dC, dI)) (f := bd) (n := 64) (cA := cI) hx hb hK hP 1 0 rfl rfl (qq_inE hi14003) dd_M_reaches_131 ?_
        refine lv_bipush (v := 6) hx hb dd_M_reaches_132 (by decide) ?_
        refine lv_icmp_le (tgt := 141) hx hb dd_M_reaches_134 (by decide) (fun hc => ?_) (fun hc => ?_)
        · replace hf := qq_t hc hf
          refine lv_iconst (v := 0) hx hb dd_M_reaches_141 (by decide) ?_
          exact hJ142 ((a2 / 8) - (a1 / 8)) 0 _ _ _ (lv_sub hl [] rfl) hP hD hS hf
        · replace hf := qq_f hc hf
          refine lv_iconst (v := 1) hx hb dd_M_reaches_137 (by decide) ?_
          refine lv_goto (tgt := 142) hx hb dd_M_reaches_138 (by decide) ?_
          exact hJ142 ((a2 / 8) - (a1 / 8)) 1 _ _ _ (lv_sub hl [] rfl) hP hD hS hf
    · replace hf := qq_f hk0 hf
      by_cases hk1 : r14002 = 2
      · replace hf := qq_t hk1 hf
        refine lv_tableIn (tgt := 154) (off := 79) hx hb dd_M_reaches_75 (by rw [hk1]; decide) (by rw [hk1]; decide) (by rw [hk1]; decide) (by decide) ?_
        refine lv_iload_n hx hb dd_M_reaches_154 rfl (lv_at hl 4 rfl) ?_
        refine lv_iload hx hb dd_M_reaches_155 (lv_at hl 5 rfl) ?_
        refine lv_imul hx hb dd_M_reaches_157 ?_
        refine lv_iconst (v := 2) hx hb dd_M_reaches_158 (by decide) ?_
        refine lv_icmp_ne (tgt := 166) hx hb dd_M_reaches_159 (by decide) (fun hc => ?_) (fun hc => ?_)
        · replace hf := qq_f hc hf
          refine lv_iconst (v := 0) hx hb dd_M_reaches_166 (by decide) ?_
          exact hJ167 0 _ _ _ (lv_sub hl [] rfl) hP hD hS hf
        · replace hf := qq_t hc hf
          refine lv_iconst (v := 1) hx hb dd_M_reaches_162 (by decide) ?_
          refine lv_goto (tgt := 167) hx hb dd_M_reaches_163 (by decide) ?_
          exact hJ167 1 _ _ _ (lv_sub hl [] rfl) hP hD hS hf
      · replace hf := qq_f hk1 hf
        by_cases hk2 : r14002 = 3
        · replace hf := qq_t hk2 hf
          refine lv_tableIn (tgt := 168) (off := 93) hx hb dd_M_reaches_75 (by rw [hk2]; decide) (by rw [hk2]; decide) (by rw [hk2]; decide) (by decide) ?_
          refine lv_iload hx hb dd_M_reaches_168 (lv_at hl 0 rfl) ?_
          refine lv_if_eq (tgt := 186) hx hb dd_M_reaches_170 (by decide) (fun hc => ?_) (fun hc => ?_)
          · replace hf := qq_t hc hf
            exact hJ186  _ _ _ (lv_sub hl [] rfl) hP hD hS hf
          · replace hf := qq_f hc hf
            refine lv_aload_n hx hb dd_M_reaches_173 rfl (lv_at hl 1 rfl) ?_
            refine lv_iload_n hx hb dd_M_reaches_174 rfl (lv_at hl 2 rfl) ?_
            refine lv_iload_n hx hb dd_M_reaches_175 rfl (lv_at hl 3 rfl) ?_
            obtain ⟨r14004, hy14004, hf⟩ := qq_bd hf
            refine qq_V (As := [.int a1, .int a2]) (rest := []) (wr := []) (wf := [(oM, .inr (5, [.int mth, .int mpl, .ref obd, .int msd, .int mrt, .int mps, .int mqt, .int mmd, .ref opa, .ref opS, .ref opR, .ref opG, .ref opP, .ref opQ, .ref okp, .ref okS, .ref okR, .ref okP, .ref okQ, .ref oli])), (obd, .inl (cI, 64, .inl bd)), (opa, .inl (cI, 9664, .inl pa)), (opS, .inl (cI, 151, .inl pS)), (opR, .inl (cI, 151, .inl pR)), (opG, .inl (cI, 151, .inl pG)), (opP, .inl (cI, 151, .inl pP)), (opQ, .inl (cI, 151, .inl pQ)), (okp, .inl (cI, 256, .inl kp)), (okS, .inl (cI, 4, .inl kS)), (okR, .inl (cI, 4, .inl kR)), (okP, .inl (cI, 4, .inl kP)), (okQ, .inl (cI, 4, .inl kQ)), (oli, .inl (cI, 1320, .inl li))]) ⟨hx, hb, hml, hown, hts⟩ (ct_M_free l dC dI cI cL cR oM obd opa opS opR opG opP opQ okp okS okR okP okQ oli mth mpl msd mrt mps mqt mmd bd pa pS pR pG pP pQ kp kS kR kP kQ li a1 a2 hy14004) mm_215 mm_216 mm_217 mm_214 mm_211 hd_M_free (by decide) qq_00 hP hD hK hS hA hT hN (q0 := 0) (ci := 5) rfl rfl [0, 1, 2, 3, 4, 5, 6, 7, 8, 9, 10, 11, 12, 13] [] [0, 1, 2, 3, 4, 5, 6, 7, 8, 9, 10, 11, 12, 13] rfl rfl rfl (by decide) rfl hl.1 rfl (Nat.le_of_ble_eq_true rfl) dd_M_reaches_176 (fun H locs hP hD hS => ?_)
            refine W.eq (g2 := F0 m 179 ls [.int r14004]) rfl ?_
            refine lv_if_eq (tgt := 186) hx hb dd_M_reaches_179 (by decide) (fun hc => ?_) (fun hc => ?_)
            · replace hf := qq_t hc hf
              exact hJ186  _ _ _ (lv_sub hl [] rfl) hP hD hS hf
            · replace hf := qq_f hc hf
              refine lv_iconst (v := 1) hx hb dd_M_reaches_182 (by decide) ?_
              refine lv_goto (tgt := 187) hx hb dd_M_reaches_183 (by decide) ?_
              exact hJ187 1 _ _ _ (lv_sub hl [] rfl) hP hD hS hf
        · replace hf := qq_f hk2 hf
          by_cases hk3 : r14002 = 4
          · replace hf := qq_t hk3 hf
            refine lv_tableIn (tgt := 188) (off := 113) hx hb dd_M_reaches_75 (by rw [hk3]; decide) (by rw [hk3]; decide) (by rw [hk3]; decide) (by decide) ?_
            refine lv_iload hx hb dd_M_reaches_188 (lv_at hl 6 rfl) ?_
            refine lv_if_eq (tgt := 206) hx hb dd_M_reaches_190 (by decide) (fun hc => ?_) (fun hc => ?_)
            · replace hf := qq_t hc hf
              exact hJ206  _ _ _ (lv_sub hl [] rfl) hP hD hS hf
            · replace hf := qq_f hc hf
              refine lv_aload_n hx hb dd_M_reaches_193 rfl (lv_at hl 1 rfl) ?_
              refine lv_iload_n hx hb dd_M_reaches_194 rfl (lv_at hl 2 rfl) ?_
              refine lv_iload_n hx hb dd_M_reaches_195 rfl (lv_at hl 3 rfl) ?_
              obtain ⟨r14005, hy14005, hf⟩ := qq_bd hf
              refine qq_V (As := [.int a1, .int a2]) (rest := []) (wr := []) (wf := [(oM, .inr (5, [.int mth, .int mpl, .ref obd, .int msd, .int mrt, .int mps, .int mqt, .int mmd, .ref opa, .ref opS, .ref opR, .ref opG, .ref opP, .ref opQ, .ref okp, .ref okS, .ref okR, .ref okP, .ref okQ, .ref oli])), (obd, .inl (cI, 64, .inl bd)), (opa, .inl (cI, 9664, .inl pa)), (opS, .inl (cI, 151, .inl pS)), (opR, .inl (cI, 151, .inl pR)), (opG, .inl (cI, 151, .inl pG)), (opP, .inl (cI, 151, .inl pP)), (opQ, .inl (cI, 151, .inl pQ)), (okp, .inl (cI, 256, .inl kp)), (okS, .inl (cI, 4, .inl kS)), (okR, .inl (cI, 4, .inl kR)), (okP, .inl (cI, 4, .inl kP)), (okQ, .inl (cI, 4, .inl kQ)), (oli, .inl (cI, 1320, .inl li))]) ⟨hx, hb, hml, hown, hts⟩ (ct_M_free l dC dI cI cL cR oM obd opa opS opR opG opP opQ okp okS okR okP okQ oli mth mpl msd mrt mps mqt mmd bd pa pS pR pG pP pQ kp kS kR kP kQ li a1 a2 hy14005) mm_215 mm_216 mm_217 mm_214 mm_211 hd_M_free (by decide) qq_00 hP hD hK hS hA hT hN (q0 := 0) (ci := 5) rfl rfl [0, 1, 2, 3, 4, 5, 6, 7, 8, 9, 10, 11, 12, 13] [] [0, 1, 2, 3, 4, 5, 6, 7, 8, 9, 10, 11, 12, 13] rfl rfl rfl (by decide) rfl hl.1 rfl (Nat.le_of_ble_eq_true rfl) dd_M_reaches_196 (fun H locs hP hD hS => ?_)
              refine W.eq (g2 := F0 m 199 ls [.int r14005]) rfl ?_
              refine lv_if_eq (tgt := 206) hx hb dd_M_reaches_199 (by decide) (fun hc => ?_) (fun hc => ?_)
              · replace hf := qq_t hc hf
                exact hJ206  _ _ _ (lv_sub hl [] rfl) hP hD hS hf
              · replace hf := qq_f hc hf
                refine lv_iconst (v := 1) hx hb dd_M_reaches_202 (by decide) ?_
                refine lv_goto (tgt := 207) hx hb dd_M_reaches_203 (by decide) ?_
                exact hJ207 1 _ _ _ (lv_sub hl [] rfl) hP hD hS hf
          · replace hf := qq_f hk3 hf
            by_cases hk4 : r14002 = 5
            · replace hf := qq_t hk4 hf
              refine lv_tableIn (tgt := 208) (off := 133) hx hb dd_M_reaches_75 (by rw [hk4]; decide) (by rw [hk4]; decide) (by rw [hk4]; decide) (by decide) ?_
              refine lv_iload hx hb dd_M_reaches_208 (lv_at hl 6 rfl) ?_
              refine lv_if_ne (tgt := 218) hx hb dd_M_reaches_210 (by decide) (fun hc => ?_) (fun hc => ?_)
              · replace hf := qq_f hc hf
                exact hJ218  _ _ _ (lv_sub hl [1, 2, 3] rfl) hP hD hS hf
              · replace hf := qq_t hc hf
                refine lv_iload hx hb dd_M_reaches_213 (lv_at hl 0 rfl) ?_
                refine lv_if_eq (tgt := 231) hx hb dd_M_reaches_215 (by decide) (fun hc => ?_) (fun hc => ?_)
                · replace hf := qq_t hc hf
                  exact hJ231  _ _ _ (lv_sub hl [] rfl) hP hD hS hf
                · replace hf := qq_f hc hf
                  exact hJ218  _ _ _ (lv_sub hl [1, 2, 3] rfl) hP hD hS hf
            · replace hf := qq_f hk4 hf
              by_cases hk5 : r14002 = 6
              · replace hf := qq_t hk5 hf
                refine lv_tableIn (tgt := 233) (off := 158) hx hb dd_M_reaches_75 (by rw [hk5]; decide) (by rw [hk5]; decide) (by rw [hk5]; decide) (by decide) ?_
                refine lv_iload_n hx hb dd_M_reaches_233 rfl (lv_at hl 4 rfl) ?_
                refine lv_iconst (v := 2) hx hb dd_M_reaches_234 (by decide) ?_
                refine lv_icmp_ge (tgt := 253) hx hb dd_M_reaches_235 (by decide) (fun hc => ?_) (fun hc => ?_)
                · replace hf := qq_t hc hf
                  exact hJ253  _ _ _ (lv_sub hl [] rfl) hP hD hS hf
                · replace hf := qq_f hc hf
                  refine lv_iload hx hb dd_M_reaches_238 (lv_at hl 5 rfl) ?_
                  refine lv_iconst (v := 2) hx hb dd_M_reaches_240 (by decide) ?_
                  refine lv_icmp_ge (tgt := 253) hx hb dd_M_reaches_241 (by decide) (fun hc => ?_) (fun hc => ?_)
                  · replace hf := qq_t hc hf
                    exact hJ253  _ _ _ (lv_sub hl [] rfl) hP hD hS hf
                  · replace hf := qq_f hc hf
                    refine lv_iload_n hx hb dd_M_reaches_244 rfl (lv_at hl 2 rfl) ?_
                    refine lv_iload_n hx hb dd_M_reaches_245 rfl (lv_at hl 3 rfl) ?_
                    refine lv_icmp_eq (tgt := 253) hx hb dd_M_reaches_246 (by decide) (fun hc => ?_) (fun hc => ?_)
                    · replace hf := qq_t hc hf
                      exact hJ253  _ _ _ (lv_sub hl [] rfl) hP hD hS hf
                    · replace hf := qq_f hc hf
                      refine lv_iconst (v := 1) hx hb dd_M_reaches_249 (by decide) ?_
                      refine lv_goto (tgt := 254) hx hb dd_M_reaches_250 (by decide) ?_
                      exact hJ254 1 _ _ _ (lv_sub hl [] rfl) hP hD hS hf
              · replace hf := qq_f hk5 hf
                have hn0 := lv_neT hk0 (by decide : (1 : Int32).toInt = 1)
                have hn1 := lv_neT hk1 (by decide : (2 : Int32).toInt = 2)
                have hn2 := lv_neT hk2 (by decide : (3 : Int32).toInt = 3)
                have hn3 := lv_neT hk3 (by decide : (4 : Int32).toInt = 4)
                have hn4 := lv_neT hk4 (by decide : (5 : Int32).toInt = 5)
                have hn5 := lv_neT hk5 (by decide : (6 : Int32).toInt = 6)
                refine lv_tableOut (tgt := 255) hx hb dd_M_reaches_75 (by omega) (by decide) ?_
                refine lv_iconst (v := 0) hx hb dd_M_reaches_255 (by decide) ?_
                cases hf
                exact qq_zret hx hb hr rfl hlocks hQ hP hD hK hS dd_M_reaches_256
  have hJ63 : ∀ (x3 : Int32) (x4 : Int32) (x5 : Int32) (H : Heap) (locs : List Loc) (ls : Array Slot), lv_has ls 7 [(0, .ref oM), (1, .int a1), (2, .int a2), (3, .int x3), (4, .int x4), (5, .int x5)] → va_P (dC, dI) classes [(oM, .inr (5, [.int mth, .int mpl, .ref obd, .int msd, .int mrt, .int mps, .int mqt, .int mmd, .ref opa, .ref opS, .ref opR, .ref opG, .ref opP, .ref opQ, .ref okp, .ref okS, .ref okR, .ref okP, .ref okQ, .ref oli])), (obd, .inl (cI, 64, .inl bd)), (opa, .inl (cI, 9664, .inl pa)), (opS, .inl (cI, 151, .inl pS)), (opR, .inl (cI, 151, .inl pR)), (opG, .inl (cI, 151, .inl pG)), (opP, .inl (cI, 151, .inl pP)), (opQ, .inl (cI, 151, .inl pQ)), (okp, .inl (cI, 256, .inl kp)), (okS, .inl (cI, 4, .inl kS)), (okR, .inl (cI, 4, .inl kR)), (okP, .inl (cI, 4, .inl kP)), (okQ, .inl (cI, 4, .inl kQ)), (oli, .inl (cI, 1320, .inl li))] H → va_D A [(oM, .inr (5, [.int mth, .int mpl, .ref obd, .int msd, .int mrt, .int mps, .int mqt, .int mmd, .ref opa, .ref opS, .ref opR, .ref opG, .ref opP, .ref opQ, .ref okp, .ref okS, .ref okR, .ref okP, .ref okQ, .ref oli])), (obd, .inl (cI, 64, .inl bd)), (opa, .inl (cI, 9664, .inl pa)), (opS, .inl (cI, 151, .inl pS)), (opR, .inl (cI, 151, .inl pR)), (opG, .inl (cI, 151, .inl pG)), (opP, .inl (cI, 151, .inl pP)), (opQ, .inl (cI, 151, .inl pQ)), (okp, .inl (cI, 256, .inl kp)), (okS, .inl (cI, 4, .inl kS)), (okR, .inl (cI, 4, .inl kR)), (okP, .inl (cI, 4, .inl kP)), (okQ, .inl (cI, 4, .inl kQ)), (oli, .inl (cI, 1320, .inl li))] → va_S A s.heap H locs → bk_M_reaches_63 bd a1 a2 x3 x4 x5 = some rr → W p l e rm_M_reaches s m ([.ref oM, .int a1, .int a2] : List Value).toArray below meth c H locs 0 0 Q (F0 m 63 ls []) := by
    intro x3 x4 x5 H locs ls hl hP hD hS hf
    rw [bk_M_reaches_63] at hf
    refine lv_iconst (v := 0) hx hb dd_M_reaches_63 (by decide) ?_
    exact hJ64 x3 x4 x5 0 _ _ _ (lv_sub hl [0, 1, 2, 3, 4, 5] rfl) hP hD hS hf
  have hJ46 : ∀ (x3 : Int32) (x4 : Int32) (s0 : Int32) (H : Heap) (locs : List Loc) (ls : Array Slot), lv_has ls 7 [(0, .ref oM), (1, .int a1), (2, .int a2), (3, .int x3), (4, .int x4)] → va_P (dC, dI) classes [(oM, .inr (5, [.int mth, .int mpl, .ref obd, .int msd, .int mrt, .int mps, .int mqt, .int mmd, .ref opa, .ref opS, .ref opR, .ref opG, .ref opP, .ref opQ, .ref okp, .ref okS, .ref okR, .ref okP, .ref okQ, .ref oli])), (obd, .inl (cI, 64, .inl bd)), (opa, .inl (cI, 9664, .inl pa)), (opS, .inl (cI, 151, .inl pS)), (opR, .inl (cI, 151, .inl pR)), (opG, .inl (cI, 151, .inl pG)), (opP, .inl (cI, 151, .inl pP)), (opQ, .inl (cI, 151, .inl pQ)), (okp, .inl (cI, 256, .inl kp)), (okS, .inl (cI, 4, .inl kS)), (okR, .inl (cI, 4, .inl kR)), (okP, .inl (cI, 4, .inl kP)), (okQ, .inl (cI, 4, .inl kQ)), (oli, .inl (cI, 1320, .inl li))] H → va_D A [(oM, .inr (5, [.int mth, .int mpl, .ref obd, .int msd, .int mrt, .int mps, .int mqt, .int mmd, .ref opa, .ref opS, .ref opR, .ref opG, .ref opP, .ref opQ, .ref okp, .ref okS, .ref okR, .ref okP, .ref okQ, .ref oli])), (obd, .inl (cI, 64, .inl bd)), (opa, .inl (cI, 9664, .inl pa)), (opS, .inl (cI, 151, .inl pS)), (opR, .inl (cI, 151, .inl pR)), (opG, .inl (cI, 151, .inl pG)), (opP, .inl (cI, 151, .inl pP)), (opQ, .inl (cI, 151, .inl pQ)), (okp, .inl (cI, 256, .inl kp)), (okS, .inl (cI, 4, .inl kS)), (okR, .inl (cI, 4, .inl kR)), (okP, .inl (cI, 4, .inl kP)), (okQ, .inl (cI, 4, .inl kQ)), (oli, .inl (cI, 1320, .inl li))] → va_S A s.heap H locs → bk_M_reaches_46 bd a1 a2 x3 x4 s0 = some rr → W p l e rm_M_reaches s m ([.ref oM, .int a1, .int a2] : List Value).toArray below meth c H locs 0 0 Q (F0 m 46 ls [.int s0]) := by
    intro x3 x4 s0 H locs ls hl hP hD hS hf
    rw [bk_M_reaches_46] at hf
    refine lv_istore (lv' := [(5, .int s0), (0, .ref oM), (1, .int a1), (2, .int a2), (3, .int x3), (4, .int x4)]) hx hb dd_M_reaches_46 hl (by decide) rfl (fun ls hl => ?_)
    refine lv_iload_n hx hb dd_M_reaches_48 rfl (lv_at hl 2 rfl) ?_
    refine lv_iload_n hx hb dd_M_reaches_49 rfl (lv_at hl 3 rfl) ?_
    refine lv_icmp_eq (tgt := 63) hx hb dd_M_reaches_50 (by decide) (fun hc => ?_) (fun hc => ?_)
    · replace hf := qq_t hc hf
      exact hJ63 x3 x4 s0 _ _ _ (lv_sub hl [1, 2, 3, 4, 5, 0] rfl) hP hD hS hf
    · replace hf := qq_f hc hf
      refine lv_iload_n hx hb dd_M_reaches_53 rfl (lv_at hl 4 rfl) ?_
      refine lv_iload hx hb dd_M_reaches_54 (lv_at hl 5 rfl) ?_
      refine lv_icmp_ne (tgt := 63) hx hb dd_M_reaches_56 (by decide) (fun hc => ?_) (fun hc => ?_)
      · replace hf := qq_f hc hf
        exact hJ63 x3 x4 s0 _ _ _ (lv_sub hl [1, 2, 3, 4, 5, 0] rfl) hP hD hS hf
      · replace hf := qq_t hc hf
        refine lv_iconst (v := 1) hx hb dd_M_reaches_59 (by decide) ?_
        refine lv_goto (tgt := 64) hx hb dd_M_reaches_60 (by decide) ?_
        exact hJ64 x3 x4 s0 1 _ _ _ (lv_sub hl [1, 2, 3, 4, 5, 0] rfl) hP hD hS hf
  have hJ45 : ∀ (x3 : Int32) (x4 : Int32) (H : Heap) (locs : List Loc) (ls : Array Slot), lv_has ls 7 [(0, .ref oM), (1, .int a1), (2, .int a2), (3, .int x3), (4, .int x4)] → va_P (dC, dI) classes [(oM, .inr (5, [.int mth, .int mpl, .ref obd, .int msd, .int mrt, .int mps, .int mqt, .int mmd, .ref opa, .ref opS, .ref opR, .ref opG, .ref opP, .ref opQ, .ref okp, .ref okS, .ref okR, .ref okP, .ref okQ, .ref oli])), (obd, .inl (cI, 64, .inl bd)), (opa, .inl (cI, 9664, .inl pa)), (opS, .inl (cI, 151, .inl pS)), (opR, .inl (cI, 151, .inl pR)), (opG, .inl (cI, 151, .inl pG)), (opP, .inl (cI, 151, .inl pP)), (opQ, .inl (cI, 151, .inl pQ)), (okp, .inl (cI, 256, .inl kp)), (okS, .inl (cI, 4, .inl kS)), (okR, .inl (cI, 4, .inl kR)), (okP, .inl (cI, 4, .inl kP)), (okQ, .inl (cI, 4, .inl kQ)), (oli, .inl (cI, 1320, .inl li))] H → va_D A [(oM, .inr (5, [.int mth, .int mpl, .ref obd, .int msd, .int mrt, .int mps, .int mqt, .int mmd, .ref opa, .ref opS, .ref opR, .ref opG, .ref opP, .ref opQ, .ref okp, .ref okS, .ref okR, .ref okP, .ref okQ, .ref oli])), (obd, .inl (cI, 64, .inl bd)), (opa, .inl (cI, 9664, .inl pa)), (opS, .inl (cI, 151, .inl pS)), (opR, .inl (cI, 151, .inl pR)), (opG, .inl (cI, 151, .inl pG)), (opP, .inl (cI, 151, .inl pP)), (opQ, .inl (cI, 151, .inl pQ)), (okp, .inl (cI, 256, .inl kp)), (okS, .inl (cI, 4, .inl kS)), (okR, .inl (cI, 4, .inl kR)), (okP, .inl (cI, 4, .inl kP)), (okQ, .inl (cI, 4, .inl kQ)), (oli, .inl (cI, 1320, .inl li))] → va_S A s.heap H locs → bk_M_reaches_45 bd a1 a2 x3 x4 = some rr → W p l e rm_M_reaches s m ([.ref oM, .int a1, .int a2] : List Value).toArray below meth c H locs 0 0 Q (F0 m 45 ls []) := by
    intro x3 x4 H locs ls hl hP hD hS hf
    rw [bk_M_reaches_45] at hf
    refine lv_iconst (v := 0) hx hb dd_M_reaches_45 (by decide) ?_
    exact hJ46 x3 x4 0 _ _ _ (lv_sub hl [0, 1, 2, 3, 4] rfl) hP hD hS hf
  have hJ41 : ∀ (x3 : Int32) (x4 : Int32) (H : Heap) (locs : List Loc) (ls : Array Slot), lv_has ls 7 [(0, .ref oM), (1, .int a1), (2, .int a2), (3, .int x3), (4, .int x4)] → va_P (dC, dI) classes [(oM, .inr (5, [.int mth, .int mpl, .ref obd, .int msd, .int mrt, .int mps, .int mqt, .int mmd, .ref opa, .ref opS, .ref opR, .ref opG, .ref opP, .ref opQ, .ref okp, .ref okS, .ref okR, .ref okP, .ref okQ, .ref oli])), (obd, .inl (cI, 64, .inl bd)), (opa, .inl (cI, 9664, .inl pa)), (opS, .inl (cI, 151, .inl pS)), (opR, .inl (cI, 151, .inl pR)), (opG, .inl (cI, 151, .inl pG)), (opP, .inl (cI, 151, .inl pP)), (opQ, .inl (cI, 151, .inl pQ)), (okp, .inl (cI, 256, .inl kp)), (okS, .inl (cI, 4, .inl kS)), (okR, .inl (cI, 4, .inl kR)), (okP, .inl (cI, 4, .inl kP)), (okQ, .inl (cI, 4, .inl kQ)), (oli, .inl (cI, 1320, .inl li))] H → va_D A [(oM, .inr (5, [.int mth, .int mpl, .ref obd, .int msd, .int mrt, .int mps, .int mqt, .int mmd, .ref opa, .ref opS, .ref opR, .ref opG, .ref opP, .ref opQ, .ref okp, .ref okS, .ref okR, .ref okP, .ref okQ, .ref oli])), (obd, .inl (cI, 64, .inl bd)), (opa, .inl (cI, 9664, .inl pa)), (opS, .inl (cI, 151, .inl pS)), (opR, .inl (cI, 151, .inl pR)), (opG, .inl (cI, 151, .inl pG)), (opP, .inl (cI, 151, .inl pP)), (opQ, .inl (cI, 151, .inl pQ)), (okp, .inl (cI, 256, .inl kp)), (okS, .inl (cI, 4, .inl kS)), (okR, .inl (cI, 4, .inl kR)), (okP, .inl (cI, 4, .inl kP)), (okQ, .inl (cI, 4, .inl kQ)), (oli, .inl (cI, 1320, .inl li))] → va_S A s.heap H locs → bk_M_reaches_41 bd a1 a2 x3 x4 = some rr → W p l e rm_M_reaches s m ([.ref oM, .int a1, .int a2] : List Value).toArray below meth c H locs 0 0 Q (F0 m 41 ls []) := by
    intro x3 x4 H locs ls hl hP hD hS hf
    rw [bk_M_reaches_41] at hf
    refine lv_iconst (v := 1) hx hb dd_M_reaches_41 (by decide) ?_
    refine lv_goto (tgt := 46) hx hb dd_M_reaches_42 (by decide) ?_
    exact hJ46 x3 x4 1 _ _ _ (lv_sub hl [0, 1, 2, 3, 4] rfl) hP hD hS hf
  rw [fn_M_reaches] at hf
  refine lv_iload_n hx hb dd_M_reaches_0 rfl (lv_at hl 2 rfl) ?_
  refine lv_bipush (v := 8) hx hb dd_M_reaches_1 (by decide) ?_
  refine lv_irem hx hb dd_M_reaches_3 (by decide) ?_
  refine lv_iload_n hx hb dd_M_reaches_4 rfl (lv_at hl 1 rfl) ?_
  refine lv_bipush (v := 8) hx hb dd_M_reaches_5 (by decide) ?_
  refine lv_irem hx hb dd_M_reaches_7 (by decide) ?_
  refine lv_isub hx hb dd_M_reaches_8 ?_
  obtain ⟨r1, hy1, hf⟩ := qq_bd hf
  refine qq_S (As := [.int ((a2 - a2 / 8 * 8) - (a1 - a1 / 8 * 8))]) (rest := []) (wr := [(oM, .inr (5, [.int mth, .int mpl, .ref obd, .int msd, .int mrt, .int mps, .int mqt, .int mmd, .ref opa, .ref opS, .ref opR, .ref opG, .ref opP, .ref opQ, .ref okp, .ref okS, .ref okR, .ref okP, .ref okQ, .ref oli])), (obd, .inl (cI, 64, .inl bd)), (opa, .inl (cI, 9664, .inl pa)), (opS, .inl (cI, 151, .inl pS)), (opR, .inl (cI, 151, .inl pR)), (opG, .inl (cI, 151, .inl pG)), (opP, .inl (cI, 151, .inl pP)), (opQ, .inl (cI, 151, .inl pQ)), (okp, .inl (cI, 256, .inl kp)), (okS, .inl (cI, 4, .inl kS)), (okR, .inl (cI, 4, .inl kR)), (okP, .inl (cI, 4, .inl kP)), (okQ, .inl (cI, 4, .inl kQ)), (oli, .inl (cI, 1320, .inl li))]) (wf := [(oM, .inr (5, [.int mth, .int mpl, .ref obd, .int msd, .int mrt, .int mps, .int mqt, .int mmd, .ref opa, .ref opS, .ref opR, .ref opG, .ref opP, .ref opQ, .ref okp, .ref okS, .ref okR, .ref okP, .ref okQ, .ref oli])), (obd, .inl (cI, 64, .inl bd)), (opa, .inl (cI, 9664, .inl pa)), (opS, .inl (cI, 151, .inl pS)), (opR, .inl (cI, 151, .inl pR)), (opG, .inl (cI, 151, .inl pG)), (opP, .inl (cI, 151, .inl pP)), (opQ, .inl (cI, 151, .inl pQ)), (okp, .inl (cI, 256, .inl kp)), (okS, .inl (cI, 4, .inl kS)), (okR, .inl (cI, 4, .inl kR)), (okP, .inl (cI, 4, .inl kP)), (okQ, .inl (cI, 4, .inl kQ)), (oli, .inl (cI, 1320, .inl li))]) ⟨hx, hb, hml, hown, hts⟩ (ct_M_size l dC dI cI cL cR ((a2 - a2 / 8 * 8) - (a1 - a1 / 8 * 8)) hy1) mm_225 mm_226 mm_224 mm_211 hd_M_size (by decide) qq_00 hP hD hK hS hA hT hN [] [0, 1, 2, 3, 4, 5, 6, 7, 8, 9, 10, 11, 12, 13] [0, 1, 2, 3, 4, 5, 6, 7, 8, 9, 10, 11, 12, 13] rfl rfl rfl (by decide) rfl hl.1 rfl (Nat.le_of_ble_eq_true rfl) dd_M_reaches_9 (fun H locs hP hD hS => ?_)
  refine W.eq (g2 := F0 m 12 ls [.int r1]) rfl ?_
  refine lv_istore_n (lv' := [(3, .int r1), (0, .ref oM), (1, .int a1), (2, .int a2)]) hx hb dd_M_reaches_12 rfl hl (by decide) rfl (fun ls hl => ?_)
  refine lv_iload_n hx hb dd_M_reaches_13 rfl (lv_at hl 3 rfl) ?_
  refine lv_bipush (v := 8) hx hb dd_M_reaches_14 (by decide) ?_
  refine lv_idiv hx hb dd_M_reaches_16 (by decide) ?_
  refine lv_iload_n hx hb dd_M_reaches_17 rfl (lv_at hl 2 rfl) ?_
  refine lv_bipush (v := 8) hx hb dd_M_reaches_18 (by decide) ?_
  refine lv_idiv hx hb dd_M_reaches_20 (by decide) ?_
  refine lv_isub hx hb dd_M_reaches_21 ?_
  obtain ⟨r2, hy2, hf⟩ := qq_bd hf
  refine qq_S (As := [.int ((a2 / 8) - (a1 / 8))]) (rest := []) (wr := [(oM, .inr (5, [.int mth, .int mpl, .ref obd, .int msd, .int mrt, .int mps, .int mqt, .int mmd, .ref opa, .ref opS, .ref opR, .ref opG, .ref opP, .ref opQ, .ref okp, .ref okS, .ref okR, .ref okP, .ref okQ, .ref oli])), (obd, .inl (cI, 64, .inl bd)), (opa, .inl (cI, 9664, .inl pa)), (opS, .inl (cI, 151, .inl pS)), (opR, .inl (cI, 151, .inl pR)), (opG, .inl (cI, 151, .inl pG)), (opP, .inl (cI, 151, .inl pP)), (opQ, .inl (cI, 151, .inl pQ)), (okp, .inl (cI, 256, .inl kp)), (okS, .inl (cI, 4, .inl kS)), (okR, .inl (cI, 4, .inl kR)), (okP, .inl (cI, 4, .inl kP)), (okQ, .inl (cI, 4, .inl kQ)), (oli, .inl (cI, 1320, .inl li))]) (wf := [(oM, .inr (5, [.int mth, .int mpl, .ref obd, .int msd, .int mrt, .int mps, .int mqt, .int mmd, .ref opa, .ref opS, .ref opR, .ref opG, .ref opP, .ref opQ, .ref okp, .ref okS, .ref okR, .ref okP, .ref okQ, .ref oli])), (obd, .inl (cI, 64, .inl bd)), (opa, .inl (cI, 9664, .inl pa)), (opS, .inl (cI, 151, .inl pS)), (opR, .inl (cI, 151, .inl pR)), (opG, .inl (cI, 151, .inl pG)), (opP, .inl (cI, 151, .inl pP)), (opQ, .inl (cI, 151, .inl pQ)), (okp, .inl (cI, 256, .inl kp)), (okS, .inl (cI, 4, .inl kS)), (okR, .inl (cI, 4, .inl kR)), (okP, .inl (cI, 4, .inl kP)), (okQ, .inl (cI, 4, .inl kQ)), (oli, .inl (cI, 1320, .inl li))]) ⟨hx, hb, hml, hown, hts⟩ (ct_M_size l dC dI cI cL cR ((a2 / 8) - (a1 / 8)) hy2) mm_225 mm_226 mm_224 mm_211 hd_M_size (by decide) qq_00 hP hD hK hS hA hT hN [] [0, 1, 2, 3, 4, 5, 6, 7, 8, 9, 10, 11, 12, 13] [0, 1, 2, 3, 4, 5, 6, 7, 8, 9, 10, 11, 12, 13] rfl rfl rfl (by decide) rfl hl.1 rfl (Nat.le_of_ble_eq_true rfl) dd_M_reaches_22 (fun H locs hP hD hS => ?_)
  refine W.eq (g2 := F0 m 25 ls [.int r2]) rfl ?_
  refine lv_istore (lv' := [(4, .int r2), (3, .int r1), (0, .ref oM), (1, .int a1), (2, .int a2)]) hx hb dd_M_reaches_25 hl (by decide) rfl (fun ls hl => ?_)
  refine lv_iload_n hx hb dd_M_reaches_27 rfl (lv_at hl 3 rfl) ?_
  refine lv_iload_n hx hb dd_M_reaches_28 rfl (lv_at hl 4 rfl) ?_
  refine lv_icmp_eq (tgt := 45) hx hb dd_M_reaches_29 (by decide) (fun hc => ?_) (fun hc => ?_)
  · replace hf := qq_t hc hf
    exact hJ45 r1 r2 _ _ _ (lv_sub hl [2, 3, 4, 1, 0] rfl) hP hD hS hf
  · replace hf := qq_f hc hf
    refine lv_iload_n hx hb dd_M_reaches_32 rfl (lv_at hl 1 rfl) ?_
    refine lv_if_eq (tgt := 41) hx hb dd_M_reaches_33 (by decide) (fun hc => ?_) (fun hc => ?_)
    · replace hf := qq_t hc hf
      exact hJ41 r1 r2 _ _ _ (lv_sub hl [2, 3, 4, 1, 0] rfl) hP hD hS hf
    · replace hf := qq_f hc hf
      refine lv_iload hx hb dd_M_reaches_36 (lv_at hl 0 rfl) ?_
      refine lv_if_ne (tgt := 45) hx hb dd_M_reaches_38 (by decide) (fun hc => ?_) (fun hc => ?_)
      · replace hf := qq_f hc hf
        exact hJ45 r1 r2 _ _ _ (lv_sub hl [2, 3, 4, 1, 0] rfl) hP hD hS hf
      · replace hf := qq_t hc hf
        exact hJ41 r1 r2 _ _ _ (lv_sub hl [2, 3, 4, 1, 0] rfl) hP hD hS hf
theorem dd_M_passes_0 : decode bb_M_passes 0 = .ok (.aload_n 0, 1) := by decide +kernel
theorem dd_M_passes_1 : decode bb_M_passes 1 = .ok (.getfield 13, 3) := by decide +kernel
theorem dd_M_passes_4 : decode bb_M_passes 4 = .ok (.ifCond .lt 49, 3) := by decide +kernel
theorem dd_M_passes_7 : decode bb_M_passes 7 = .ok (.iload_n 2, 1) := by decide +kernel
theorem dd_M_passes_8 : decode bb_M_passes 8 = .ok (.bipush 8, 2) := by decide +kernel
theorem dd_M_passes_10 : decode bb_M_passes 10 = .ok (.irem, 1) := by decide +kernel
theorem dd_M_passes_11 : decode bb_M_passes 11 = .ok (.aload_n 0, 1) := by decide +kernel
theorem dd_M_passes_12 : decode bb_M_passes 12 = .ok (.getfield 13, 3) := by decide +kernel
theorem dd_M_passes_15 : decode bb_M_passes 15 = .ok (.if_icmp .ne 38, 3) := by decide +kernel
theorem dd_M_passes_18 : decode bb_M_passes 18 = .ok (.iload_n 1, 1) := by decide +kernel
theorem dd_M_passes_19 : decode bb_M_passes 19 = .ok (.bipush 8, 2) := by decide +kernel
theorem dd_M_passes_21 : decode bb_M_passes 21 = .ok (.idiv, 1) := by decide +kernel
theorem dd_M_passes_22 : decode bb_M_passes 22 = .ok (.iconst 4, 1) := by decide +kernel
theorem dd_M_passes_23 : decode bb_M_passes 23 = .ok (.aload_n 0, 1) := by decide +kernel
theorem dd_M_passes_24 : decode bb_M_passes 24 = .ok (.getfield 95, 3) := by decide +kernel
theorem dd_M_passes_27 : decode bb_M_passes 27 = .ok (.isub, 1) := by decide +kernel
theorem dd_M_passes_28 : decode bb_M_passes 28 = .ok (.if_icmp .ne 25, 3) := by decide +kernel
theorem dd_M_passes_31 : decode bb_M_passes 31 = .ok (.aload_n 0, 1) := by decide +kernel
theorem dd_M_passes_32 : decode bb_M_passes 32 = .ok (.iload_n 1, 1) := by decide +kernel
theorem dd_M_passes_33 : decode bb_M_passes 33 = .ok (.iload_n 2, 1) := by decide +kernel
theorem dd_M_passes_34 : decode bb_M_passes 34 = .ok (.invokevirtual 86, 3) := by decide +kernel
theorem dd_M_passes_37 : decode bb_M_passes 37 = .ok (.ifCond .eq 16, 3) := by decide +kernel
theorem dd_M_passes_40 : decode bb_M_passes 40 = .ok (.aload_n 0, 1) := by decide +kernel
theorem dd_M_passes_41 : decode bb_M_passes 41 = .ok (.getfield 7, 3) := by decide +kernel
theorem dd_M_passes_44 : decode bb_M_passes 44 = .ok (.iload_n 2, 1) := by decide +kernel
theorem dd_M_passes_45 : decode bb_M_passes 45 = .ok (.iaload, 1) := by decide +kernel
theorem dd_M_passes_46 : decode bb_M_passes 46 = .ok (.ifCond .ne 7, 3) := by decide +kernel
theorem dd_M_passes_49 : decode bb_M_passes 49 = .ok (.iconst 1, 1) := by decide +kernel
theorem dd_M_passes_50 : decode bb_M_passes 50 = .ok (.goto 4, 3) := by decide +kernel
theorem dd_M_passes_53 : decode bb_M_passes 53 = .ok (.iconst 0, 1) := by decide +kernel
theorem dd_M_passes_54 : decode bb_M_passes 54 = .ok (.ireturn, 1) := by decide +kernel
abbrev ty_M_passes : Type := Int32
noncomputable def bk_M_passes_54 (msd : Int32) (mps : Int32) (bd : Nat → Int32) (a1 : Int32) (a2 : Int32) (s0 : Int32) : Option ty_M_passes := qq_ck (qq_b s0) <| some s0
noncomputable def bk_M_passes_53 (msd : Int32) (mps : Int32) (bd : Nat → Int32) (a1 : Int32) (a2 : Int32) : Option ty_M_passes := bk_M_passes_54 msd mps bd a1 a2 0
noncomputable def fn_M_passes (msd : Int32) (mps : Int32) (bd : Nat → Int32) (a1 : Int32) (a2 : Int32) : Option ty_M_passes := if mps < 0 then (bk_M_passes_53 msd mps bd a1 a2) else (if (a2 - a2 / 8 * 8) = mps then (if (a1 / 8) = (4 - msd) then ((fn_M_reaches bd a1 a2).bind fun r1 => if r1 = 0 then (bk_M_passes_53 msd mps bd a1 a2) else (qq_ck (qq_in a2 64) <| if (bd a2.toNatClampNeg) = 0 then (bk_M_passes_54 msd mps bd a1 a2 1) else (bk_M_passes_53 msd mps bd a1 a2))) else (bk_M_passes_53 msd mps bd a1 a2)) else (bk_M_passes_53 msd mps bd a1 a2))
abbrev rm_M_passes : Room := { frames := 3, cells := 0, slots := 0, locals := 70 }
set_option maxHeartbeats 4000000 in
set_option maxRecDepth 100000 in
theorem ct_M_passes (l : Launch) (dC : Nat → ClassId) (dI : Nat → Nat → Nat) (cI cL cR : ClassId) (oM obd opa opS opR opG opP opQ okp okS okR okP okQ oli : Nat) (mth : Int32) (mpl : Int32) (msd : Int32) (mrt : Int32) (mps : Int32) (mqt : Int32) (mmd : Int32) (bd : Nat → Int32) (pa : Nat → Int32) (pS : Nat → Int32) (pR : Nat → Int32) (pG : Nat → Int32) (pP : Nat → Int32) (pQ : Nat → Int32) (kp : Nat → Int32) (kS : Nat → Int32) (kR : Nat → Int32) (kP : Nat → Int32) (kQ : Nat → Int32) (li : Nat → Int32) (a1 : Int32) (a2 : Int32) {rr : Int32} (hf : fn_M_passes msd mps bd a1 a2 = some rr) : qq_det l yy_M_passes (ww_of yy_M_passes bb_M_passes 3 (some .boolean)) rm_M_passes (dC, dI) (qq_ty cI cL cR) [.ref oM, .int a1, .int a2] [(oM, .inr (5, [.int mth, .int mpl, .ref obd, .int msd, .int mrt, .int mps, .int mqt, .int mmd, .ref opa, .ref opS, .ref opR, .ref opG, .ref opP, .ref opQ, .ref okp, .ref okS, .ref okR, .ref okP, .ref okQ, .ref oli])), (obd, .inl (cI, 64, .inl bd)), (opa, .inl (cI, 9664, .inl pa)), (opS, .inl (cI, 151, .inl pS)), (opR, .inl (cI, 151, .inl pR)), (opG, .inl (cI, 151, .inl pG)), (opP, .inl (cI, 151, .inl pP)), (opQ, .inl (cI, 151, .inl pQ)), (okp, .inl (cI, 256, .inl kp)), (okS, .inl (cI, 4, .inl kS)), (okR, .inl (cI, 4, .inl kR)), (okP, .inl (cI, 4, .inl kP)), (okQ, .inl (cI, 4, .inl kQ)), (oli, .inl (cI, 1320, .inl li))] (some (.int rr)) [(oM, .inr (5, [.int mth, .int mpl, .ref obd, .int msd, .int mrt, .int mps, .int mqt, .int mmd, .ref opa, .ref opS, .ref opR, .ref opG, .ref opP, .ref opQ, .ref okp, .ref okS, .ref okR, .ref okP, .ref okQ, .ref oli])), (obd, .inl (cI, 64, .inl bd)), (opa, .inl (cI, 9664, .inl pa)), (opS, .inl (cI, 151, .inl pS)), (opR, .inl (cI, 151, .inl pR)), (opG, .inl (cI, 151, .inl pG)), (opP, .inl (cI, 151, .inl pP)), (opQ, .inl (cI, 151, .inl pQ)), (okp, .inl (cI, 256, .inl kp)), (okS, .inl (cI, 4, .inl kS)), (okR, .inl (cI, 4, .inl kR)), (okP, .inl (cI, 4, .inl kP)), (okQ, .inl (cI, 4, .inl kQ)), (oli, .inl (cI, 1320, .inl li))] := by
  refine qq_of (own := RR_M) (by decide) rfl (Nat.le_of_ble_eq_true rfl) ?_
  intro p e s m below meth c A Q ls hx hb hml hr hlocks hown hts hK hA hT hN hP hD hS hl hQ
  have hl : lv_has ls 3 [(0, .ref oM), (1, .int a1), (2, .int a2)] := hl
  have hJ54 : ∀ (s0 : Int32) (H : Heap) (locs : List Loc) (ls : Array Slot), lv_has ls 3 [] → va_P (dC, dI) classes [(oM, .inr (5, [.int mth, .int mpl, .ref obd, .int msd, .int mrt, .int mps, .int mqt, .int mmd, .ref opa, .ref opS, .ref opR, .ref opG, .ref opP, .ref opQ, .ref okp, .ref okS, .ref okR, .ref okP, .ref okQ, .ref oli])), (obd, .inl (cI, 64, .inl bd)), (opa, .inl (cI, 9664, .inl pa)), (opS, .inl (cI, 151, .inl pS)), (opR, .inl (cI, 151, .inl pR)), (opG, .inl (cI, 151, .inl pG)), (opP, .inl (cI, 151, .inl pP)), (opQ, .inl (cI, 151, .inl pQ)), (okp, .inl (cI, 256, .inl kp)), (okS, .inl (cI, 4, .inl kS)), (okR, .inl (cI, 4, .inl kR)), (okP, .inl (cI, 4, .inl kP)), (okQ, .inl (cI, 4, .inl kQ)), (oli, .inl (cI, 1320, .inl li))] H → va_D A [(oM, .inr (5, [.int mth, .int mpl, .ref obd, .int msd, .int mrt, .int mps, .int mqt, .int mmd, .ref opa, .ref opS, .ref opR, .ref opG, .ref opP, .ref opQ, .ref okp, .ref okS, .ref okR, .ref okP, .ref okQ, .ref oli])), (obd, .inl (cI, 64, .inl bd)), (opa, .inl (cI, 9664, .inl pa)), (opS, .inl (cI, 151, .inl pS)), (opR, .inl (cI, 151, .inl pR)), (opG, .inl (cI, 151, .inl pG)), (opP, .inl (cI, 151, .inl pP)), (opQ, .inl (cI, 151, .inl pQ)), (okp, .inl (cI, 256, .inl kp)), (okS, .inl (cI, 4, .inl kS)), (okR, .inl (cI, 4, .inl kR)), (okP, .inl (cI, 4, .inl kP)), (okQ, .inl (cI, 4, .inl kQ)), (oli, .inl (cI, 1320, .inl li))] → va_S A s.heap H locs → bk_M_passes_54 msd mps bd a1 a2 s0 = some rr → W p l e rm_M_passes s m ([.ref oM, .int a1, .int a2] : List Value).toArray below meth c H locs 0 0 Q (F0 m 54 ls [.int s0]) := by
    intro s0 H locs ls hl hP hD hS hf
    rw [bk_M_passes_54] at hf
    obtain ⟨hzb, hf⟩ := qq_ckE hf
    cases hf
    exact qq_zret hx hb hr (qq_bE hzb) hlocks hQ hP hD hK hS dd_M_passes_54
  have hJ53 : ∀  (H : Heap) (locs : List Loc) (ls : Array Slot), lv_has ls 3 [] → va_P (dC, dI) classes [(oM, .inr (5, [.int mth, .int mpl, .ref obd, .int msd, .int mrt, .int mps, .int mqt, .int mmd, .ref opa, .ref opS, .ref opR, .ref opG, .ref opP, .ref opQ, .ref okp, .ref okS, .ref okR, .ref okP, .ref okQ, .ref oli])), (obd, .inl (cI, 64, .inl bd)), (opa, .inl (cI, 9664, .inl pa)), (opS, .inl (cI, 151, .inl pS)), (opR, .inl (cI, 151, .inl pR)), (opG, .inl (cI, 151, .inl pG)), (opP, .inl (cI, 151, .inl pP)), (opQ, .inl (cI, 151, .inl pQ)), (okp, .inl (cI, 256, .inl kp)), (okS, .inl (cI, 4, .inl kS)), (okR, .inl (cI, 4, .inl kR)), (okP, .inl (cI, 4, .inl kP)), (okQ, .inl (cI, 4, .inl kQ)), (oli, .inl (cI, 1320, .inl li))] H → va_D A [(oM, .inr (5, [.int mth, .int mpl, .ref obd, .int msd, .int mrt, .int mps, .int mqt, .int mmd, .ref opa, .ref opS, .ref opR, .ref opG, .ref opP, .ref opQ, .ref okp, .ref okS, .ref okR, .ref okP, .ref okQ, .ref oli])), (obd, .inl (cI, 64, .inl bd)), (opa, .inl (cI, 9664, .inl pa)), (opS, .inl (cI, 151, .inl pS)), (opR, .inl (cI, 151, .inl pR)), (opG, .inl (cI, 151, .inl pG)), (opP, .inl (cI, 151, .inl pP)), (opQ, .inl (cI, 151, .inl pQ)), (okp, .inl (cI, 256, .inl kp)), (okS, .inl (cI, 4, .inl kS)), (okR, .inl (cI, 4, .inl kR)), (okP, .inl (cI, 4, .inl kP)), (okQ, .inl (cI, 4, .inl kQ)), (oli, .inl (cI, 1320, .inl li))] → va_S A s.heap H locs → bk_M_passes_53 msd mps bd a1 a2 = some rr → W p l e rm_M_passes s m ([.ref oM, .int a1, .int a2] : List Value).toArray below meth c H locs 0 0 Q (F0 m 53 ls []) := by
    intro  H locs ls hl hP hD hS hf
    rw [bk_M_passes_53] at hf
    refine lv_iconst (v := 0) hx hb dd_M_passes_53 (by decide) ?_
    exact hJ54 0 _ _ _ (lv_sub hl [] rfl) hP hD hS hf
  rw [fn_M_passes] at hf
  refine lv_aload_n hx hb dd_M_passes_0 rfl (lv_at hl 0 rfl) ?_
  refine va_get (D := (dC, dI)) (ci := 5) (v := .int mps) (C := RR_M) (T := FF_M) (N := 20) hx hb hts uu_M hown hK hP 0 rfl rfl 5 (by decide) (hts _ mm_227) (fun _ h9 => h9) rfl dd_M_passes_1 ?_
  refine lv_if_lt (tgt := 53) hx hb dd_M_passes_4 (by decide) (fun hc => ?_) (fun hc => ?_)
  · replace hf := qq_t hc hf
    exact hJ53  _ _ _ (lv_sub hl [] rfl) hP hD hS hf
  · replace hf := qq_f hc hf
    refine lv_iload_n hx hb dd_M_passes_7 rfl (lv_at hl 2 rfl) ?_
    refine lv_bipush (v := 8) hx hb dd_M_passes_8 (by decide) ?_
    refine lv_irem hx hb dd_M_passes_10 (by decide) ?_
    refine lv_aload_n hx hb dd_M_passes_11 rfl (lv_at hl 0 rfl) ?_
    refine va_get (D := (dC, dI)) (ci := 5) (v := .int mps) (C := RR_M) (T := FF_M) (N := 20) hx hb hts uu_M hown hK hP 0 rfl rfl 5 (by decide) (hts _ mm_227) (fun _ h9 => h9) rfl dd_M_passes_12 ?_
    refine lv_icmp_ne (tgt := 53) hx hb dd_M_passes_15 (by decide) (fun hc => ?_) (fun hc => ?_)
    · replace hf := qq_f hc hf
      exact hJ53  _ _ _ (lv_sub hl [] rfl) hP hD hS hf
    · replace hf := qq_t hc hf
      refine lv_iload_n hx hb dd_M_passes_18 rfl (lv_at hl 1 rfl) ?_
      refine lv_bipush (v := 8) hx hb dd_M_passes_19 (by decide) ?_
      refine lv_idiv hx hb dd_M_passes_21 (by decide) ?_
      refine lv_iconst (v := 4) hx hb dd_M_passes_22 (by decide) ?_
      refine lv_aload_n hx hb dd_M_passes_23 rfl (lv_at hl 0 rfl) ?_
      refine va_get (D := (dC, dI)) (ci := 5) (v := .int msd) (C := RR_M) (T := FF_M) (N := 20) hx hb hts uu_M hown hK hP 0 rfl rfl 3 (by decide) (hts _ mm_228) (fun _ h9 => h9) rfl dd_M_passes_24 ?_
      refine lv_isub hx hb dd_M_passes_27 ?_
      refine lv_icmp_ne (tgt := 53) hx hb dd_M_passes_28 (by decide) (fun hc => ?_) (fun hc => ?_)
      · replace hf := qq_f hc hf
        exact hJ53  _ _ _ (lv_sub hl [] rfl) hP hD hS hf
      · replace hf := qq_t hc hf
        refine lv_aload_n hx hb dd_M_passes_31 rfl (lv_at hl 0 rfl) ?_
        refine lv_iload_n hx hb dd_M_passes_32 rfl (lv_at hl 1 rfl) ?_
        refine lv_iload_n hx hb dd_M_passes_33 rfl (lv_at hl 2 rfl) ?_
        obtain ⟨r1, hy1, hf⟩ := qq_bd hf
        refine qq_V (As := [.int a1, .int a2]) (rest := []) (wr := []) (wf := [(oM, .inr (5, [.int mth, .int mpl, .ref obd, .int msd, .int mrt, .int mps, .int mqt, .int mmd, .ref opa, .ref opS, .ref opR, .ref opG, .ref opP, .ref opQ, .ref okp, .ref okS, .ref okR, .ref okP, .ref okQ, .ref oli])), (obd, .inl (cI, 64, .inl bd)), (opa, .inl (cI, 9664, .inl pa)), (opS, .inl (cI, 151, .inl pS)), (opR, .inl (cI, 151, .inl pR)), (opG, .inl (cI, 151, .inl pG)), (opP, .inl (cI, 151, .inl pP)), (opQ, .inl (cI, 151, .inl pQ)), (okp, .inl (cI, 256, .inl kp)), (okS, .inl (cI, 4, .inl kS)), (okR, .inl (cI, 4, .inl kR)), (okP, .inl (cI, 4, .inl kP)), (okQ, .inl (cI, 4, .inl kQ)), (oli, .inl (cI, 1320, .inl li))]) ⟨hx, hb, hml, hown, hts⟩ (ct_M_reaches l dC dI cI cL cR oM obd opa opS opR opG opP opQ okp okS okR okP okQ oli mth mpl msd mrt mps mqt mmd bd pa pS pR pG pP pQ kp kS kR kP kQ li a1 a2 hy1) mm_230 mm_231 mm_232 mm_229 mm_211 hd_M_reaches (by decide) qq_00 hP hD hK hS hA hT hN (q0 := 0) (ci := 5) rfl rfl [0, 1, 2, 3, 4, 5, 6, 7, 8, 9, 10, 11, 12, 13] [] [0, 1, 2, 3, 4, 5, 6, 7, 8, 9, 10, 11, 12, 13] rfl rfl rfl (by decide) rfl hl.1 rfl (Nat.le_of_ble_eq_true rfl) dd_M_passes_34 (fun H locs hP hD hS => ?_)
        refine W.eq (g2 := F0 m 37 ls [.int r1]) rfl ?_
        refine lv_if_eq (tgt := 53) hx hb dd_M_passes_37 (by decide) (fun hc => ?_) (fun hc => ?_)
        · replace hf := qq_t hc hf
          exact hJ53  _ _ _ (lv_sub hl [] rfl) hP hD hS hf
        · replace hf := qq_f hc hf
          refine lv_aload_n hx hb dd_M_passes_40 rfl (lv_at hl 0 rfl) ?_
          refine va_get (D := (dC, dI)) (ci := 5) (v := .ref obd) (C := RR_M) (T := FF_M) (N := 20) hx hb hts uu_M hown hK hP 0 rfl rfl 2 (by decide) (hts _ mm_209) (fun _ h9 => h9) rfl dd_M_passes_41 ?_
          refine lv_iload_n hx hb dd_M_passes_44 rfl (lv_at hl 2 rfl) ?_
          obtain ⟨hi2, hf⟩ := qq_ckE hf
          refine va_iald (D := (dC, dI)) (f := bd) (n := 64) (cA := cI) hx hb hK hP 1 0 rfl rfl (qq_inE hi2) dd_M_passes_45 ?_
          refine lv_if_ne (tgt := 53) hx hb dd_M_passes_46 (by decide) (fun hc => ?_) (fun hc => ?_)
          · replace hf := qq_f hc hf
            exact hJ53  _ _ _ (lv_sub hl [] rfl) hP hD hS hf
          · replace hf := qq_t hc hf
            refine lv_iconst (v := 1) hx hb dd_M_passes_49 (by decide) ?_
            refine lv_goto (tgt := 54) hx hb dd_M_passes_50 (by decide) ?_
            exact hJ54 1 _ _ _ (lv_sub hl [] rfl) hP hD hS hf
