theorem dd_B_at_0 : decode bb_B_at 0 = .ok (.iload_n 1, 1) := by decide +kernel
theorem dd_B_at_1 : decode bb_B_at 1 = .ok (.invokestatic 61, 3) := by decide +kernel
theorem dd_B_at_4 : decode bb_B_at 4 = .ok (.ifCond .eq 15, 3) := by decide +kernel
theorem dd_B_at_7 : decode bb_B_at 7 = .ok (.aload_n 0, 1) := by decide +kernel
theorem dd_B_at_8 : decode bb_B_at 8 = .ok (.getfield 10, 3) := by decide +kernel
theorem dd_B_at_11 : decode bb_B_at 11 = .ok (.getfield 48, 3) := by decide +kernel
theorem dd_B_at_14 : decode bb_B_at 14 = .ok (.iload_n 1, 1) := by decide +kernel
theorem dd_B_at_15 : decode bb_B_at 15 = .ok (.iaload, 1) := by decide +kernel
theorem dd_B_at_16 : decode bb_B_at 16 = .ok (.goto 4, 3) := by decide +kernel
theorem dd_B_at_19 : decode bb_B_at 19 = .ok (.iconst 0, 1) := by decide +kernel
theorem dd_B_at_20 : decode bb_B_at 20 = .ok (.ireturn, 1) := by decide +kernel
abbrev ty_B_at : Type := Int32
noncomputable def bk_B_at_20 (sq : Nat → Int32) (a1 : Int32) (s0 : Int32) : Option ty_B_at := some s0
noncomputable def fn_B_at (sq : Nat → Int32) (a1 : Int32) : Option ty_B_at := (fn_B_isSquare a1).bind fun r1 => if r1 = 0 then (bk_B_at_20 sq a1 0) else (qq_ck (qq_in a1 64) <| bk_B_at_20 sq a1 (sq a1.toNatClampNeg))
abbrev rm_B_at : Room := { frames := 1, cells := 0, slots := 0, locals := 20 }
set_option maxHeartbeats 4000000 in
set_option maxRecDepth 100000 in
theorem ct_B_at (l : Launch) (dC : Nat → ClassId) (dI : Nat → Nat → Nat) (cI cL cR : ClassId) (oB oP osq okg oH obo oma oqt oyc oyb oW orc oS orows oR0 orc0 oR1 orc1 oR2 orc2 oR3 orc3 : Nat) (pl : Int32) (sd : Int32) (rt : Int32) (ps : Int32) (sq : Nat → Int32) (kg : Nat → Int32) (md : Int32) (bo : Nat → Int64) (ma : Nat → Int32) (qt : Nat → Int32) (yc : Nat → Int32) (yb : Nat → Int32) (rn : Int32) (rc : Nat → Int32) (rn0 : Int32) (rc0 : Nat → Int32) (rn1 : Int32) (rc1 : Nat → Int32) (rn2 : Int32) (rc2 : Nat → Int32) (rn3 : Int32) (rc3 : Nat → Int32) (a1 : Int32) {rr : Int32} (hf : fn_B_at sq a1 = some rr) : qq_det l yy_B_at (ww_of yy_B_at bb_B_at 2 (some .int)) rm_B_at (dC, dI) (qq_ty cI cL cR) [.ref oB, .int a1] [(oB, .inr (0, [.ref oP, .ref oH, .ref oW, .ref oS, .int pl])), (oP, .inr (1, [.ref osq, .ref okg, .int sd, .int rt, .int ps])), (osq, .inl (cI, 64, .inl sq)), (okg, .inl (cI, 2, .inl kg)), (oH, .inr (3, [.ref obo, .ref oma, .ref oqt, .ref oyc, .ref oyb, .int md])), (obo, .inl (cL, 604, .inr (.inl bo))), (oma, .inl (cI, 151, .inl ma)), (oqt, .inl (cI, 151, .inl qt)), (oyc, .inl (cI, 150, .inl yc)), (oyb, .inl (cI, 150, .inl yb)), (oW, .inr (2, [.ref orc, .int rn])), (orc, .inl (cI, 415, .inl rc)), (oS, .inr (4, [.ref orows])), (orows, .inl (cR, 4, .inr (.inr (.inr (.inr (qq_rows oR0 oR1 oR2 oR3)))))), (oR0, .inr (2, [.ref orc0, .int rn0])), (orc0, .inl (cI, 415, .inl rc0)), (oR1, .inr (2, [.ref orc1, .int rn1])), (orc1, .inl (cI, 415, .inl rc1)), (oR2, .inr (2, [.ref orc2, .int rn2])), (orc2, .inl (cI, 415, .inl rc2)), (oR3, .inr (2, [.ref orc3, .int rn3])), (orc3, .inl (cI, 415, .inl rc3))] (some (.int rr)) [(oB, .inr (0, [.ref oP, .ref oH, .ref oW, .ref oS, .int pl])), (oP, .inr (1, [.ref osq, .ref okg, .int sd, .int rt, .int ps])), (osq, .inl (cI, 64, .inl sq)), (okg, .inl (cI, 2, .inl kg)), (oH, .inr (3, [.ref obo, .ref oma, .ref oqt, .ref oyc, .ref oyb, .int md])), (obo, .inl (cL, 604, .inr (.inl bo))), (oma, .inl (cI, 151, .inl ma)), (oqt, .inl (cI, 151, .inl qt)), (oyc, .inl (cI, 150, .inl yc)), (oyb, .inl (cI, 150, .inl yb)), (oW, .inr (2, [.ref orc, .int rn])), (orc, .inl (cI, 415, .inl rc)), (oS, .inr (4, [.ref orows])), (orows, .inl (cR, 4, .inr (.inr (.inr (.inr (qq_rows oR0 oR1 oR2 oR3)))))), (oR0, .inr (2, [.ref orc0, .int rn0])), (orc0, .inl (cI, 415, .inl rc0)), (oR1, .inr (2, [.ref orc1, .int rn1])), (orc1, .inl (cI, 415, .inl rc1)), (oR2, .inr (2, [.ref orc2, .int rn2])), (orc2, .inl (cI, 415, .inl rc2)), (oR3, .inr (2, [.ref orc3, .int rn3])), (orc3, .inl (cI, 415, .inl rc3))] := by
  refine qq_of (own := RR_B) (by decide) rfl (Nat.le_of_ble_eq_true rfl) ?_
  intro p e s m below meth c A Q ls hx hb hml hr hlocks hown hts hK hA hT hN hP hD hS hl hQ
  have hl : lv_has ls 2 [(0, .ref oB), (1, .int a1)] := hl
  have hJ20 : ∀ (s0 : Int32) (H : Heap) (locs : List Loc) (ls : Array Slot), lv_has ls 2 [] → va_P (dC, dI) classes [(oB, .inr (0, [.ref oP, .ref oH, .ref oW, .ref oS, .int pl])), (oP, .inr (1, [.ref osq, .ref okg, .int sd, .int rt, .int ps])), (osq, .inl (cI, 64, .inl sq)), (okg, .inl (cI, 2, .inl kg)), (oH, .inr (3, [.ref obo, .ref oma, .ref oqt, .ref oyc, .ref oyb, .int md])), (obo, .inl (cL, 604, .inr (.inl bo))), (oma, .inl (cI, 151, .inl ma)), (oqt, .inl (cI, 151, .inl qt)), (oyc, .inl (cI, 150, .inl yc)), (oyb, .inl (cI, 150, .inl yb)), (oW, .inr (2, [.ref orc, .int rn])), (orc, .inl (cI, 415, .inl rc)), (oS, .inr (4, [.ref orows])), (orows, .inl (cR, 4, .inr (.inr (.inr (.inr (qq_rows oR0 oR1 oR2 oR3)))))), (oR0, .inr (2, [.ref orc0, .int rn0])), (orc0, .inl (cI, 415, .inl rc0)), (oR1, .inr (2, [.ref orc1, .int rn1])), (orc1, .inl (cI, 415, .inl rc1)), (oR2, .inr (2, [.ref orc2, .int rn2])), (orc2, .inl (cI, 415, .inl rc2)), (oR3, .inr (2, [.ref orc3, .int rn3])), (orc3, .inl (cI, 415, .inl rc3))] H → va_D A [(oB, .inr (0, [.ref oP, .ref oH, .ref oW, .ref oS, .int pl])), (oP, .inr (1, [.ref osq, .ref okg, .int sd, .int rt, .int ps])), (osq, .inl (cI, 64, .inl sq)), (okg, .inl (cI, 2, .inl kg)), (oH, .inr (3, [.ref obo, .ref oma, .ref oqt, .ref oyc, .ref oyb, .int md])), (obo, .inl (cL, 604, .inr (.inl bo))), (oma, .inl (cI, 151, .inl ma)), (oqt, .inl (cI, 151, .inl qt)), (oyc, .inl (cI, 150, .inl yc)), (oyb, .inl (cI, 150, .inl yb)), (oW, .inr (2, [.ref orc, .int rn])), (orc, .inl (cI, 415, .inl rc)), (oS, .inr (4, [.ref orows])), (orows, .inl (cR, 4, .inr (.inr (.inr (.inr (qq_rows oR0 oR1 oR2 oR3)))))), (oR0, .inr (2, [.ref orc0, .int rn0])), (orc0, .inl (cI, 415, .inl rc0)), (oR1, .inr (2, [.ref orc1, .int rn1])), (orc1, .inl (cI, 415, .inl rc1)), (oR2, .inr (2, [.ref orc2, .int rn2])), (orc2, .inl (cI, 415, .inl rc2)), (oR3, .inr (2, [.ref orc3, .int rn3])), (orc3, .inl (cI, 415, .inl rc3))] → va_S A s.heap H locs → bk_B_at_20 sq a1 s0 = some rr → W p l e rm_B_at s m ([.ref oB, .int a1] : List Value).toArray below meth c H locs 0 0 Q (F0 m 20 ls [.int s0]) := by
    intro s0 H locs ls hl hP hD hS hf
    rw [bk_B_at_20] at hf
    cases hf
    exact qq_iret hx hb hr hlocks hQ hP hD hK hS dd_B_at_20
  rw [fn_B_at] at hf
  refine lv_iload_n hx hb dd_B_at_0 rfl (lv_at hl 1 rfl) ?_
  obtain ⟨r1, hy1, hf⟩ := qq_bd hf
  refine qq_S (As := [.int a1]) (rest := []) (wr := [(oB, .inr (0, [.ref oP, .ref oH, .ref oW, .ref oS, .int pl])), (oP, .inr (1, [.ref osq, .ref okg, .int sd, .int rt, .int ps])), (osq, .inl (cI, 64, .inl sq)), (okg, .inl (cI, 2, .inl kg)), (oH, .inr (3, [.ref obo, .ref oma, .ref oqt, .ref oyc, .ref oyb, .int md])), (obo, .inl (cL, 604, .inr (.inl bo))), (oma, .inl (cI, 151, .inl ma)), (oqt, .inl (cI, 151, .inl qt)), (oyc, .inl (cI, 150, .inl yc)), (oyb, .inl (cI, 150, .inl yb)), (oW, .inr (2, [.ref orc, .int rn])), (orc, .inl (cI, 415, .inl rc)), (oS, .inr (4, [.ref orows])), (orows, .inl (cR, 4, .inr (.inr (.inr (.inr (qq_rows oR0 oR1 oR2 oR3)))))), (oR0, .inr (2, [.ref orc0, .int rn0])), (orc0, .inl (cI, 415, .inl rc0)), (oR1, .inr (2, [.ref orc1, .int rn1])), (orc1, .inl (cI, 415, .inl rc1)), (oR2, .inr (2, [.ref orc2, .int rn2])), (orc2, .inl (cI, 415, .inl rc2)), (oR3, .inr (2, [.ref orc3, .int rn3])), (orc3, .inl (cI, 415, .inl rc3))]) (wf := [(oB, .inr (0, [.ref oP, .ref oH, .ref oW, .ref oS, .int pl])), (oP, .inr (1, [.ref osq, .ref okg, .int sd, .int rt, .int ps])), (osq, .inl (cI, 64, .inl sq)), (okg, .inl (cI, 2, .inl kg)), (oH, .inr (3, [.ref obo, .ref oma, .ref oqt, .ref oyc, .ref oyb, .int md])), (obo, .inl (cL, 604, .inr (.inl bo))), (oma, .inl (cI, 151, .inl ma)), (oqt, .inl (cI, 151, .inl qt)), (oyc, .inl (cI, 150, .inl yc)), (oyb, .inl (cI, 150, .inl yb)), (oW, .inr (2, [.ref orc, .int rn])), (orc, .inl (cI, 415, .inl rc)), (oS, .inr (4, [.ref orows])), (orows, .inl (cR, 4, .inr (.inr (.inr (.inr (qq_rows oR0 oR1 oR2 oR3)))))), (oR0, .inr (2, [.ref orc0, .int rn0])), (orc0, .inl (cI, 415, .inl rc0)), (oR1, .inr (2, [.ref orc1, .int rn1])), (orc1, .inl (cI, 415, .inl rc1)), (oR2, .inr (2, [.ref orc2, .int rn2])), (orc2, .inl (cI, 415, .inl rc2)), (oR3, .inr (2, [.ref orc3, .int rn3])), (orc3, .inl (cI, 415, .inl rc3))]) ⟨hx, hb, hml, hown, hts⟩ (ct_B_isSquare l dC dI cI cL cR a1 hy1) mm_2 mm_3 mm_0 mm_1 hd_B_isSquare (by decide) qq_00 hP hD hK hS hA hT hN [] [0, 1, 2, 3, 4, 5, 6, 7, 8, 9, 10, 11, 12, 13, 14, 15, 16, 17, 18, 19, 20, 21] [0, 1, 2, 3, 4, 5, 6, 7, 8, 9, 10, 11, 12, 13, 14, 15, 16, 17, 18, 19, 20, 21] rfl rfl rfl (by decide) rfl hl.1 rfl (Nat.le_of_ble_eq_true rfl) dd_B_at_1 (fun H locs hP hD hS => ?_)
  refine W.eq (g2 := F0 m 4 ls [.int r1]) rfl ?_
  refine lv_if_eq (tgt := 19) hx hb dd_B_at_4 (by decide) (fun hc => ?_) (fun hc => ?_)
  · replace hf := qq_t hc hf
    refine lv_iconst (v := 0) hx hb dd_B_at_19 (by decide) ?_
    exact hJ20 0 _ _ _ (lv_sub hl [] rfl) hP hD hS hf
  · replace hf := qq_f hc hf
    refine lv_aload_n hx hb dd_B_at_7 rfl (lv_at hl 0 rfl) ?_
    refine va_get (D := (dC, dI)) (ci := 0) (v := .ref oP) (C := RR_B) (T := FF_B) (N := 5) hx hb hts uu_B hown hK hP 0 rfl rfl 0 (by decide) (hts _ mm_4) (fun _ h9 => h9) rfl dd_B_at_8 ?_
    refine va_get (D := (dC, dI)) (ci := 1) (v := .ref osq) (C := RR_P) (T := FF_P) (N := 5) hx hb hts uu_P hown hK hP 1 rfl rfl 0 (by decide) (hts _ mm_5) (fun _ h9 => h9) rfl dd_B_at_11 ?_
    refine lv_iload_n hx hb dd_B_at_14 rfl (lv_at hl 1 rfl) ?_
    obtain ⟨hi2, hf⟩ := qq_ckE hf
    refine va_iald (D := (dC, dI)) (f := sq) (n := 64) (cA := cI) hx hb hK hP 2 0 rfl rfl (qq_inE hi2) dd_B_at_15 ?_
    refine lv_goto (tgt := 20) hx hb dd_B_at_16 (by decide) ?_
    exact hJ20 (sq a1.toNatClampNeg) _ _ _ (lv_sub hl [] rfl) hP hD hS hf
theorem dd_JA_fill_0 : decode bb_JA_fill 0 = .ok (.iconst 0, 1) := by decide +kernel
theorem dd_JA_fill_1 : decode bb_JA_fill 1 = .ok (.istore_n 2, 1) := by decide +kernel
theorem dd_JA_fill_2 : decode bb_JA_fill 2 = .ok (.aload_n 0, 1) := by decide +kernel
theorem dd_JA_fill_3 : decode bb_JA_fill 3 = .ok (.arraylength, 1) := by decide +kernel
theorem dd_JA_fill_4 : decode bb_JA_fill 4 = .ok (.istore_n 3, 1) := by decide +kernel
theorem dd_JA_fill_5 : decode bb_JA_fill 5 = .ok (.iload_n 2, 1) := by decide +kernel
theorem dd_JA_fill_6 : decode bb_JA_fill 6 = .ok (.iload_n 3, 1) := by decide +kernel
theorem dd_JA_fill_7 : decode bb_JA_fill 7 = .ok (.if_icmp .ge 13, 3) := by decide +kernel
theorem dd_JA_fill_10 : decode bb_JA_fill 10 = .ok (.aload_n 0, 1) := by decide +kernel
theorem dd_JA_fill_11 : decode bb_JA_fill 11 = .ok (.iload_n 2, 1) := by decide +kernel
theorem dd_JA_fill_12 : decode bb_JA_fill 12 = .ok (.iload_n 1, 1) := by decide +kernel
theorem dd_JA_fill_13 : decode bb_JA_fill 13 = .ok (.iastore, 1) := by decide +kernel
theorem dd_JA_fill_14 : decode bb_JA_fill 14 = .ok (.iinc 2 1, 3) := by decide +kernel
theorem dd_JA_fill_17 : decode bb_JA_fill 17 = .ok (.goto (-12), 3) := by decide +kernel
theorem dd_JA_fill_20 : decode bb_JA_fill 20 = .ok (.return_, 1) := by decide +kernel
abbrev ty_JA_fill : Type := (Nat → Int32)
noncomputable def lo_JA_fill_5 (a1 : Int32) : Nat → (Nat → Int32) → Int32 → Int32 → Option ty_JA_fill
  | 0, _, _, _ => none
  | n + 1, ar, x2, x3 => if x3 ≤ x2 then (some ar) else (qq_ck (qq_in x2 64) <| qq_let (upd ar x2.toNatClampNeg a1) fun ar_1002 => qq_let (x2 + 1) fun v1003 => (lo_JA_fill_5 a1 n) ar_1002 v1003 x3)
theorem lo_JA_fill_5_z (a1 : Int32) (ar : Nat → Int32) (x2 : Int32) (x3 : Int32) : lo_JA_fill_5 a1 0 ar x2 x3 = none := rfl
theorem lo_JA_fill_5_s (a1 : Int32) (ar : Nat → Int32) (x2 : Int32) (x3 : Int32) (n : Nat) : lo_JA_fill_5 a1 (n + 1) ar x2 x3 = (if x3 ≤ x2 then (some ar) else (qq_ck (qq_in x2 64) <| qq_let (upd ar x2.toNatClampNeg a1) fun ar_1002 => qq_let (x2 + 1) fun v1003 => (lo_JA_fill_5 a1 n) ar_1002 v1003 x3)) := rfl
noncomputable def fn_JA_fill (ar : Nat → Int32) (a1 : Int32) : Option ty_JA_fill := lo_JA_fill_5 a1 qq_FU ar 0 64
abbrev rm_JA_fill : Room := { frames := 0, cells := 0, slots := 0, locals := 0 }
set_option maxHeartbeats 4000000 in
set_option maxRecDepth 100000 in
theorem ct_JA_fill (l : Launch) (dC : Nat → ClassId) (dI : Nat → Nat → Nat) (cI cL cR : ClassId) (oar : Nat) (ar : Nat → Int32) (a1 : Int32) {ar' : Nat → Int32} (hf : fn_JA_fill ar a1 = some ar') : qq_det l yy_JA_fill (ww_of yy_JA_fill bb_JA_fill 4 none) rm_JA_fill (dC, dI) (qq_ty cI cL cR) [.ref oar, .int a1] [(oar, .inl (cI, 64, .inl ar))] none [(oar, .inl (cI, 64, .inl ar'))] := by
  refine qq_of (own := RR_JA) (by decide) rfl (Nat.le_of_ble_eq_true rfl) ?_
  intro p e s m below meth c A Q ls hx hb hml hr hlocks hown hts hK hA hT hN hP hD hS hl hQ
  have hl : lv_has ls 4 [(0, .ref oar), (1, .int a1)] := hl
  have hL5 : ∀ (n5 : Nat) (ar : Nat → Int32) (x2 : Int32) (x3 : Int32) (H : Heap) (locs : List Loc) (ls : Array Slot), lv_has ls 4 [(0, .ref oar), (1, .int a1), (2, .int x2), (3, .int x3)] → va_P (dC, dI) classes [(oar, .inl (cI, 64, .inl ar))] H → va_D A [(oar, .inl (cI, 64, .inl ar))] → va_S A s.heap H locs → lo_JA_fill_5 a1 n5 ar x2 x3 = some ar' → W p l e rm_JA_fill s m ([.ref oar, .int a1] : List Value).toArray below meth c H locs 0 0 Q (F0 m 5 ls []) := by
    intro n5
    induction n5 with
    | zero => exact fun ar x2 x3 H locs ls hl hP hD hS hf => absurd hf (by rw [lo_JA_fill_5_z]; exact fun h => by cases h)
    | succ n5 ih5 =>
      intro ar x2 x3 H locs ls hl hP hD hS hf
      rw [lo_JA_fill_5_s] at hf
      refine lv_iload_n hx hb dd_JA_fill_5 rfl (lv_at hl 2 rfl) ?_
      refine lv_iload_n hx hb dd_JA_fill_6 rfl (lv_at hl 3 rfl) ?_
      refine lv_icmp_ge (tgt := 20) hx hb dd_JA_fill_7 (by decide) (fun hc => ?_) (fun hc => ?_)
      · replace hf := qq_t hc hf
        cases hf
        exact qq_vret hx hb hr hlocks hQ hP hD hK hS dd_JA_fill_20
      · replace hf := qq_f hc hf
        refine lv_aload_n hx hb dd_JA_fill_10 rfl (lv_at hl 0 rfl) ?_
        refine lv_iload_n hx hb dd_JA_fill_11 rfl (lv_at hl 2 rfl) ?_
        refine lv_iload_n hx hb dd_JA_fill_12 rfl (lv_at hl 1 rfl) ?_
        obtain ⟨hi1001, hf⟩ := qq_ckE hf
        refine va_iast (D := (dC, dI)) (f := ar) (n := 64) (cA := cI) hx hb hK hP hD hS 0 0 rfl rfl (qq_inE hi1001) dd_JA_fill_13 (fun H locs hP hD hS => ?_)
        obtain ⟨ar_1002, ear_1002⟩ : ∃ z, z = upd ar x2.toNatClampNeg a1 := ⟨_, rfl⟩
        replace hf := qq_lt ear_1002 hf
        have hP : va_P (dC, dI) classes [(oar, .inl (cI, 64, .inl ar_1002))] H := by rw [ear_1002]; exact hP
        have hD : va_D A [(oar, .inl (cI, 64, .inl ar_1002))] := by rw [ear_1002]; exact hD
        obtain ⟨v1003, ev1003⟩ : ∃ z, z = x2 + 1 := ⟨_, rfl⟩
        replace hf := qq_lt ev1003 hf
        refine lv_iinc (k := 2) (v := v1003) (lv' := [(2, .int v1003), (0, .ref oar), (1, .int a1), (3, .int x3)]) hx hb dd_JA_fill_14 hl rfl (by rw [ev1003]; exact congrArg _ (by decide)) (by decide) rfl (fun ls hl => ?_)
        refine lv_goto (tgt := 5) hx hb dd_JA_fill_17 (by decide) ?_
        exact ih5 ar_1002 v1003 x3 _ _ _ (lv_sub hl [1, 2, 0, 3] rfl) hP hD hS hf
  rw [fn_JA_fill] at hf
  refine lv_iconst (v := 0) hx hb dd_JA_fill_0 (by decide) ?_
  refine lv_istore_n (lv' := [(2, .int 0), (0, .ref oar), (1, .int a1)]) hx hb dd_JA_fill_1 rfl hl (by decide) rfl (fun ls hl => ?_)
  refine lv_aload_n hx hb dd_JA_fill_2 rfl (lv_at hl 1 rfl) ?_
  refine va_alen (D := (dC, dI)) (v := 64) hx hb hK hP 0 0 rfl rfl rfl dd_JA_fill_3 ?_
  refine lv_istore_n (lv' := [(3, .int 64), (2, .int 0), (0, .ref oar), (1, .int a1)]) hx hb dd_JA_fill_4 rfl hl (by decide) rfl (fun ls hl => ?_)
  exact hL5 qq_FU ar 0 64 _ _ _ (lv_sub hl [2, 3, 1, 0] rfl) hP hD hS hf
theorem dd_B_clear_0 : decode bb_B_clear 0 = .ok (.aload_n 0, 1) := by decide +kernel
theorem dd_B_clear_1 : decode bb_B_clear 1 = .ok (.iconst 0, 1) := by decide +kernel
theorem dd_B_clear_2 : decode bb_B_clear 2 = .ok (.putfield 44, 3) := by decide +kernel
theorem dd_B_clear_5 : decode bb_B_clear 5 = .ok (.aload_n 0, 1) := by decide +kernel
theorem dd_B_clear_6 : decode bb_B_clear 6 = .ok (.getfield 10, 3) := by decide +kernel
theorem dd_B_clear_9 : decode bb_B_clear 9 = .ok (.getfield 48, 3) := by decide +kernel
theorem dd_B_clear_12 : decode bb_B_clear 12 = .ok (.iconst 0, 1) := by decide +kernel
theorem dd_B_clear_13 : decode bb_B_clear 13 = .ok (.invokestatic 52, 3) := by decide +kernel
theorem dd_B_clear_16 : decode bb_B_clear 16 = .ok (.return_, 1) := by decide +kernel
abbrev ty_B_clear : Type := Int32 × (Nat → Int32)
noncomputable def fn_B_clear (pl : Int32) (sq : Nat → Int32) : Option ty_B_clear := (fn_JA_fill sq 0).bind fun sq_1 => some (0, sq_1)
abbrev rm_B_clear : Room := { frames := 1, cells := 0, slots := 0, locals := 23 }
set_option maxHeartbeats 4000000 in
set_option maxRecDepth 100000 in
theorem ct_B_clear (l : Launch) (dC : Nat → ClassId) (dI : Nat → Nat → Nat) (cI cL cR : ClassId) (oB oP osq okg oH obo oma oqt oyc oyb oW orc oS orows oR0 orc0 oR1 orc1 oR2 orc2 oR3 orc3 : Nat) (pl : Int32) (sd : Int32) (rt : Int32) (ps : Int32) (sq : Nat → Int32) (kg : Nat → Int32) (md : Int32) (bo : Nat → Int64) (ma : Nat → Int32) (qt : Nat → Int32) (yc : Nat → Int32) (yb : Nat → Int32) (rn : Int32) (rc : Nat → Int32) (rn0 : Int32) (rc0 : Nat → Int32) (rn1 : Int32) (rc1 : Nat → Int32) (rn2 : Int32) (rc2 : Nat → Int32) (rn3 : Int32) (rc3 : Nat → Int32) {pl' : Int32} {sq' : Nat → Int32} (hf : fn_B_clear pl sq = some (pl', sq')) : qq_det l yy_B_clear (ww_of yy_B_clear bb_B_clear 1 none) rm_B_clear (dC, dI) (qq_ty cI cL cR) [.ref oB] [(oB, .inr (0, [.ref oP, .ref oH, .ref oW, .ref oS, .int pl])), (oP, .inr (1, [.ref osq, .ref okg, .int sd, .int rt, .int ps])), (osq, .inl (cI, 64, .inl sq)), (okg, .inl (cI, 2, .inl kg)), (oH, .inr (3, [.ref obo, .ref oma, .ref oqt, .ref oyc, .ref oyb, .int md])), (obo, .inl (cL, 604, .inr (.inl bo))), (oma, .inl (cI, 151, .inl ma)), (oqt, .inl (cI, 151, .inl qt)), (oyc, .inl (cI, 150, .inl yc)), (oyb, .inl (cI, 150, .inl yb)), (oW, .inr (2, [.ref orc, .int rn])), (orc, .inl (cI, 415, .inl rc)), (oS, .inr (4, [.ref orows])), (orows, .inl (cR, 4, .inr (.inr (.inr (.inr (qq_rows oR0 oR1 oR2 oR3)))))), (oR0, .inr (2, [.ref orc0, .int rn0])), (orc0, .inl (cI, 415, .inl rc0)), (oR1, .inr (2, [.ref orc1, .int rn1])), (orc1, .inl (cI, 415, .inl rc1)), (oR2, .inr (2, [.ref orc2, .int rn2])), (orc2, .inl (cI, 415, .inl rc2)), (oR3, .inr (2, [.ref orc3, .int rn3])), (orc3, .inl (cI, 415, .inl rc3))] none [(oB, .inr (0, [.ref oP, .ref oH, .ref oW, .ref oS, .int pl'])), (oP, .inr (1, [.ref osq, .ref okg, .int sd, .int rt, .int ps])), (osq, .inl (cI, 64, .inl sq')), (okg, .inl (cI, 2, .inl kg)), (oH, .inr (3, [.ref obo, .ref oma, .ref oqt, .ref oyc, .ref oyb, .int md])), (obo, .inl (cL, 604, .inr (.inl bo))), (oma, .inl (cI, 151, .inl ma)), (oqt, .inl (cI, 151, .inl qt)), (oyc, .inl (cI, 150, .inl yc)), (oyb, .inl (cI, 150, .inl yb)), (oW, .inr (2, [.ref orc, .int rn])), (orc, .inl (cI, 415, .inl rc)), (oS, .inr (4, [.ref orows])), (orows, .inl (cR, 4, .inr (.inr (.inr (.inr (qq_rows oR0 oR1 oR2 oR3)))))), (oR0, .inr (2, [.ref orc0, .int rn0])), (orc0, .inl (cI, 415, .inl rc0)), (oR1, .inr (2, [.ref orc1, .int rn1])), (orc1, .inl (cI, 415, .inl rc1)), (oR2, .inr (2, [.ref orc2, .int rn2])), (orc2, .inl (cI, 415, .inl rc2)), (oR3, .inr (2, [.ref orc3, .int rn3])), (orc3, .inl (cI, 415, .inl rc3))] := by
  refine qq_of (own := RR_B) (by decide) rfl (Nat.le_of_ble_eq_true rfl) ?_
  intro p e s m below meth c A Q ls hx hb hml hr hlocks hown hts hK hA hT hN hP hD hS hl hQ
  have hl : lv_has ls 1 [(0, .ref oB)] := hl
  rw [fn_B_clear] at hf
  refine lv_aload_n hx hb dd_B_clear_0 rfl (lv_at hl 0 rfl) ?_
  refine lv_iconst (v := 0) hx hb dd_B_clear_1 (by decide) ?_
  refine va_put (D := (dC, dI)) (ci := 0) (v := .int 0) (ty := .boolean) (C := RR_B) (T := FF_B) (N := 5) hx hb hts uu_B tt_B tt_B_ok nn_B hown hK hP hD hS 0 rfl rfl 4 (by decide) (hts _ mm_6) (fun _ h9 => h9) rfl (by decide +kernel) rfl rfl (Nat.le_of_ble_eq_true rfl) dd_B_clear_2 (fun H locs hP hD hS => ?_)
  have hP : va_P (dC, dI) classes [(oB, .inr (0, [.ref oP, .ref oH, .ref oW, .ref oS, .int 0])), (oP, .inr (1, [.ref osq, .ref okg, .int sd, .int rt, .int ps])), (osq, .inl (cI, 64, .inl sq)), (okg, .inl (cI, 2, .inl kg)), (oH, .inr (3, [.ref obo, .ref oma, .ref oqt, .ref oyc, .ref oyb, .int md])), (obo, .inl (cL, 604, .inr (.inl bo))), (oma, .inl (cI, 151, .inl ma)), (oqt, .inl (cI, 151, .inl qt)), (oyc, .inl (cI, 150, .inl yc)), (oyb, .inl (cI, 150, .inl yb)), (oW, .inr (2, [.ref orc, .int rn])), (orc, .inl (cI, 415, .inl rc)), (oS, .inr (4, [.ref orows])), (orows, .inl (cR, 4, .inr (.inr (.inr (.inr (qq_rows oR0 oR1 oR2 oR3)))))), (oR0, .inr (2, [.ref orc0, .int rn0])), (orc0, .inl (cI, 415, .inl rc0)), (oR1, .inr (2, [.ref orc1, .int rn1])), (orc1, .inl (cI, 415, .inl rc1)), (oR2, .inr (2, [.ref orc2, .int rn2])), (orc2, .inl (cI, 415, .inl rc2)), (oR3, .inr (2, [.ref orc3, .int rn3])), (orc3, .inl (cI, 415, .inl rc3))] H := hP
  have hD : va_D A [(oB, .inr (0, [.ref oP, .ref oH, .ref oW, .ref oS, .int 0])), (oP, .inr (1, [.ref osq, .ref okg, .int sd, .int rt, .int ps])), (osq, .inl (cI, 64, .inl sq)), (okg, .inl (cI, 2, .inl kg)), (oH, .inr (3, [.ref obo, .ref oma, .ref oqt, .ref oyc, .ref oyb, .int md])), (obo, .inl (cL, 604, .inr (.inl bo))), (oma, .inl (cI, 151, .inl ma)), (oqt, .inl (cI, 151, .inl qt)), (oyc, .inl (cI, 150, .inl yc)), (oyb, .inl (cI, 150, .inl yb)), (oW, .inr (2, [.ref orc, .int rn])), (orc, .inl (cI, 415, .inl rc)), (oS, .inr (4, [.ref orows])), (orows, .inl (cR, 4, .inr (.inr (.inr (.inr (qq_rows oR0 oR1 oR2 oR3)))))), (oR0, .inr (2, [.ref orc0, .int rn0])), (orc0, .inl (cI, 415, .inl rc0)), (oR1, .inr (2, [.ref orc1, .int rn1])), (orc1, .inl (cI, 415, .inl rc1)), (oR2, .inr (2, [.ref orc2, .int rn2])), (orc2, .inl (cI, 415, .inl rc2)), (oR3, .inr (2, [.ref orc3, .int rn3])), (orc3, .inl (cI, 415, .inl rc3))] := hD
  refine lv_aload_n hx hb dd_B_clear_5 rfl (lv_at hl 0 rfl) ?_
  refine va_get (D := (dC, dI)) (ci := 0) (v := .ref oP) (C := RR_B) (T := FF_B) (N := 5) hx hb hts uu_B hown hK hP 0 rfl rfl 0 (by decide) (hts _ mm_4) (fun _ h9 => h9) rfl dd_B_clear_6 ?_
  refine va_get (D := (dC, dI)) (ci := 1) (v := .ref osq) (C := RR_P) (T := FF_P) (N := 5) hx hb hts uu_P hown hK hP 1 rfl rfl 0 (by decide) (hts _ mm_5) (fun _ h9 => h9) rfl dd_B_clear_9 ?_
  refine lv_iconst (v := 0) hx hb dd_B_clear_12 (by decide) ?_
  obtain ⟨sq_1, hy1, hf⟩ := qq_bd hf
  refine qq_S (As := [.ref osq, .int 0]) (rest := []) (wr := [(oB, .inr (0, [.ref oP, .ref oH, .ref oW, .ref oS, .int 0])), (oP, .inr (1, [.ref osq, .ref okg, .int sd, .int rt, .int ps])), (okg, .inl (cI, 2, .inl kg)), (oH, .inr (3, [.ref obo, .ref oma, .ref oqt, .ref oyc, .ref oyb, .int md])), (obo, .inl (cL, 604, .inr (.inl bo))), (oma, .inl (cI, 151, .inl ma)), (oqt, .inl (cI, 151, .inl qt)), (oyc, .inl (cI, 150, .inl yc)), (oyb, .inl (cI, 150, .inl yb)), (oW, .inr (2, [.ref orc, .int rn])), (orc, .inl (cI, 415, .inl rc)), (oS, .inr (4, [.ref orows])), (orows, .inl (cR, 4, .inr (.inr (.inr (.inr (qq_rows oR0 oR1 oR2 oR3)))))), (oR0, .inr (2, [.ref orc0, .int rn0])), (orc0, .inl (cI, 415, .inl rc0)), (oR1, .inr (2, [.ref orc1, .int rn1])), (orc1, .inl (cI, 415, .inl rc1)), (oR2, .inr (2, [.ref orc2, .int rn2])), (orc2, .inl (cI, 415, .inl rc2)), (oR3, .inr (2, [.ref orc3, .int rn3])), (orc3, .inl (cI, 415, .inl rc3))]) (wf := [(oB, .inr (0, [.ref oP, .ref oH, .ref oW, .ref oS, .int 0])), (oP, .inr (1, [.ref osq, .ref okg, .int sd, .int rt, .int ps])), (osq, .inl (cI, 64, .inl sq_1)), (okg, .inl (cI, 2, .inl kg)), (oH, .inr (3, [.ref obo, .ref oma, .ref oqt, .ref oyc, .ref oyb, .int md])), (obo, .inl (cL, 604, .inr (.inl bo))), (oma, .inl (cI, 151, .inl ma)), (oqt, .inl (cI, 151, .inl qt)), (oyc, .inl (cI, 150, .inl yc)), (oyb, .inl (cI, 150, .inl yb)), (oW, .inr (2, [.ref orc, .int rn])), (orc, .inl (cI, 415, .inl rc)), (oS, .inr (4, [.ref orows])), (orows, .inl (cR, 4, .inr (.inr (.inr (.inr (qq_rows oR0 oR1 oR2 oR3)))))), (oR0, .inr (2, [.ref orc0, .int rn0])), (orc0, .inl (cI, 415, .inl rc0)), (oR1, .inr (2, [.ref orc1, .int rn1])), (orc1, .inl (cI, 415, .inl rc1)), (oR2, .inr (2, [.ref orc2, .int rn2])), (orc2, .inl (cI, 415, .inl rc2)), (oR3, .inr (2, [.ref orc3, .int rn3])), (orc3, .inl (cI, 415, .inl rc3))]) ⟨hx, hb, hml, hown, hts⟩ (ct_JA_fill l dC dI cI cL cR osq sq 0 hy1) mm_9 mm_10 mm_7 mm_8 hd_JA_fill (by decide) qq_00 hP hD hK hS hA hT hN [2] [0, 1, 3, 4, 5, 6, 7, 8, 9, 10, 11, 12, 13, 14, 15, 16, 17, 18, 19, 20, 21] [0, 1, 21, 2, 3, 4, 5, 6, 7, 8, 9, 10, 11, 12, 13, 14, 15, 16, 17, 18, 19, 20] rfl rfl rfl (by decide) rfl hl.1 rfl (Nat.le_of_ble_eq_true rfl) dd_B_clear_13 (fun H locs hP hD hS => ?_)
  refine W.eq (g2 := F0 m 16 ls []) rfl ?_
  cases hf
  exact qq_vret hx hb hr hlocks hQ hP hD hK hS dd_B_clear_16
theorem dd_P_isOther_0 : decode bb_P_isOther 0 = .ok (.aload_n 0, 1) := by decide +kernel
theorem dd_P_isOther_1 : decode bb_P_isOther 1 = .ok (.getfield 9, 3) := by decide +kernel
theorem dd_P_isOther_4 : decode bb_P_isOther 4 = .ok (.iload_n 1, 1) := by decide +kernel
theorem dd_P_isOther_5 : decode bb_P_isOther 5 = .ok (.iaload, 1) := by decide +kernel
theorem dd_P_isOther_6 : decode bb_P_isOther 6 = .ok (.bipush 6, 2) := by decide +kernel
theorem dd_P_isOther_8 : decode bb_P_isOther 8 = .ok (.iconst 1, 1) := by decide +kernel
theorem dd_P_isOther_9 : decode bb_P_isOther 9 = .ok (.aload_n 0, 1) := by decide +kernel
theorem dd_P_isOther_10 : decode bb_P_isOther 10 = .ok (.getfield 68, 3) := by decide +kernel
theorem dd_P_isOther_13 : decode bb_P_isOther 13 = .ok (.isub, 1) := by decide +kernel
theorem dd_P_isOther_14 : decode bb_P_isOther 14 = .ok (.imul, 1) := by decide +kernel
theorem dd_P_isOther_15 : decode bb_P_isOther 15 = .ok (.isub, 1) := by decide +kernel
theorem dd_P_isOther_16 : decode bb_P_isOther 16 = .ok (.istore_n 2, 1) := by decide +kernel
theorem dd_P_isOther_17 : decode bb_P_isOther 17 = .ok (.iload_n 2, 1) := by decide +kernel
theorem dd_P_isOther_18 : decode bb_P_isOther 18 = .ok (.iconst 1, 1) := by decide +kernel
theorem dd_P_isOther_19 : decode bb_P_isOther 19 = .ok (.if_icmp .lt 13, 3) := by decide +kernel
theorem dd_P_isOther_22 : decode bb_P_isOther 22 = .ok (.iload_n 2, 1) := by decide +kernel
theorem dd_P_isOther_23 : decode bb_P_isOther 23 = .ok (.bipush 6, 2) := by decide +kernel
theorem dd_P_isOther_25 : decode bb_P_isOther 25 = .ok (.if_icmp .gt 7, 3) := by decide +kernel
theorem dd_P_isOther_28 : decode bb_P_isOther 28 = .ok (.iconst 1, 1) := by decide +kernel
theorem dd_P_isOther_29 : decode bb_P_isOther 29 = .ok (.goto 4, 3) := by decide +kernel
theorem dd_P_isOther_32 : decode bb_P_isOther 32 = .ok (.iconst 0, 1) := by decide +kernel
theorem dd_P_isOther_33 : decode bb_P_isOther 33 = .ok (.ireturn, 1) := by decide +kernel
abbrev ty_P_isOther : Type := Int32
noncomputable def bk_P_isOther_33 (sd : Int32) (sq : Nat → Int32) (a1 : Int32) (s0 : Int32) : Option ty_P_isOther := qq_ck (qq_b s0) <| some s0
noncomputable def bk_P_isOther_32 (sd : Int32) (sq : Nat → Int32) (a1 : Int32) : Option ty_P_isOther := bk_P_isOther_33 sd sq a1 0
noncomputable def fn_P_isOther (sd : Int32) (sq : Nat → Int32) (a1 : Int32) : Option ty_P_isOther := qq_ck (qq_in a1 64) <| qq_let ((sq a1.toNatClampNeg) - (6 * (1 - sd))) fun v2 => if v2 < 1 then (bk_P_isOther_32 sd sq a1) else (if 6 < v2 then (bk_P_isOther_32 sd sq a1) else (bk_P_isOther_33 sd sq a1 1))
abbrev rm_P_isOther : Room := { frames := 0, cells := 0, slots := 0, locals := 0 }
set_option maxHeartbeats 4000000 in
set_option maxRecDepth 100000 in
theorem ct_P_isOther (l : Launch) (dC : Nat → ClassId) (dI : Nat → Nat → Nat) (cI cL cR : ClassId) (oP osq okg : Nat) (sd : Int32) (rt : Int32) (ps : Int32) (sq : Nat → Int32) (kg : Nat → Int32) (a1 : Int32) {rr : Int32} (hf : fn_P_isOther sd sq a1 = some rr) : qq_det l yy_P_isOther (ww_of yy_P_isOther bb_P_isOther 3 (some .boolean)) rm_P_isOther (dC, dI) (qq_ty cI cL cR) [.ref oP, .int a1] [(oP, .inr (1, [.ref osq, .ref okg, .int sd, .int rt, .int ps])), (osq, .inl (cI, 64, .inl sq)), (okg, .inl (cI, 2, .inl kg))] (some (.int rr)) [(oP, .inr (1, [.ref osq, .ref okg, .int sd, .int rt, .int ps])), (osq, .inl (cI, 64, .inl sq)), (okg, .inl (cI, 2, .inl kg))] := by
  refine qq_of (own := RR_P) (by decide) rfl (Nat.le_of_ble_eq_true rfl) ?_
  intro p e s m below meth c A Q ls hx hb hml hr hlocks hown hts hK hA hT hN hP hD hS hl hQ
  have hl : lv_has ls 3 [(0, .ref oP), (1, .int a1)] := hl
  have hJ33 : ∀ (s0 : Int32) (H : Heap) (locs : List Loc) (ls : Array Slot), lv_has ls 3 [] → va_P (dC, dI) classes [(oP, .inr (1, [.ref osq, .ref okg, .int sd, .int rt, .int ps])), (osq, .inl (cI, 64, .inl sq)), (okg, .inl (cI, 2, .inl kg))] H → va_D A [(oP, .inr (1, [.ref osq, .ref okg, .int sd, .int rt, .int ps])), (osq, .inl (cI, 64, .inl sq)), (okg, .inl (cI, 2, .inl kg))] → va_S A s.heap H locs → bk_P_isOther_33 sd sq a1 s0 = some rr → W p l e rm_P_isOther s m ([.ref oP, .int a1] : List Value).toArray below meth c H locs 0 0 Q (F0 m 33 ls [.int s0]) := by
    intro s0 H locs ls hl hP hD hS hf
    rw [bk_P_isOther_33] at hf
    obtain ⟨hzb, hf⟩ := qq_ckE hf
    cases hf
    exact qq_zret hx hb hr (qq_bE hzb) hlocks hQ hP hD hK hS dd_P_isOther_33
  have hJ32 : ∀  (H : Heap) (locs : List Loc) (ls : Array Slot), lv_has ls 3 [] → va_P (dC, dI) classes [(oP, .inr (1, [.ref osq, .ref okg, .int sd, .int rt, .int ps])), (osq, .inl (cI, 64, .inl sq)), (okg, .inl (cI, 2, .inl kg))] H → va_D A [(oP, .inr (1, [.ref osq, .ref okg, .int sd, .int rt, .int ps])), (osq, .inl (cI, 64, .inl sq)), (okg, .inl (cI, 2, .inl kg))] → va_S A s.heap H locs → bk_P_isOther_32 sd sq a1 = some rr → W p l e rm_P_isOther s m ([.ref oP, .int a1] : List Value).toArray below meth c H locs 0 0 Q (F0 m 32 ls []) := by
    intro  H locs ls hl hP hD hS hf
    rw [bk_P_isOther_32] at hf
    refine lv_iconst (v := 0) hx hb dd_P_isOther_32 (by decide) ?_
    exact hJ33 0 _ _ _ (lv_sub hl [] rfl) hP hD hS hf
  rw [fn_P_isOther] at hf
  refine lv_aload_n hx hb dd_P_isOther_0 rfl (lv_at hl 0 rfl) ?_
  refine va_get (D := (dC, dI)) (ci := 1) (v := .ref osq) (C := RR_P) (T := FF_P) (N := 5) hx hb hts uu_P hown hK hP 0 rfl rfl 0 (by decide) (hts _ mm_11) (fun _ h9 => h9) rfl dd_P_isOther_1 ?_
  refine lv_iload_n hx hb dd_P_isOther_4 rfl (lv_at hl 1 rfl) ?_
  obtain ⟨hi1, hf⟩ := qq_ckE hf
  refine va_iald (D := (dC, dI)) (f := sq) (n := 64) (cA := cI) hx hb hK hP 1 0 rfl rfl (qq_inE hi1) dd_P_isOther_5 ?_
  refine lv_bipush (v := 6) hx hb dd_P_isOther_6 (by decide) ?_
  refine lv_iconst (v := 1) hx hb dd_P_isOther_8 (by decide) ?_
  refine lv_aload_n hx hb dd_P_isOther_9 rfl (lv_at hl 0 rfl) ?_
  refine va_get (D := (dC, dI)) (ci := 1) (v := .int sd) (C := RR_P) (T := FF_P) (N := 5) hx hb hts uu_P hown hK hP 0 rfl rfl 2 (by decide) (hts _ mm_12) (fun _ h9 => h9) rfl dd_P_isOther_10 ?_
  refine lv_isub hx hb dd_P_isOther_13 ?_
  refine lv_imul hx hb dd_P_isOther_14 ?_
  refine lv_isub hx hb dd_P_isOther_15 ?_
  refine lv_topi (fun v2 ev2 => ?_)
  replace hf := qq_lt ev2 hf
  refine lv_istore_n (lv' := [(2, .int v2), (0, .ref oP), (1, .int a1)]) hx hb dd_P_isOther_16 rfl hl (by decide) rfl (fun ls hl => ?_)
  refine lv_iload_n hx hb dd_P_isOther_17 rfl (lv_at hl 0 rfl) ?_
  refine lv_iconst (v := 1) hx hb dd_P_isOther_18 (by decide) ?_
  refine lv_icmp_lt (tgt := 32) hx hb dd_P_isOther_19 (by decide) (fun hc => ?_) (fun hc => ?_)
  · replace hf := qq_t hc hf
    exact hJ32  _ _ _ (lv_sub hl [] rfl) hP hD hS hf
  · replace hf := qq_f hc hf
    refine lv_iload_n hx hb dd_P_isOther_22 rfl (lv_at hl 0 rfl) ?_
    refine lv_bipush (v := 6) hx hb dd_P_isOther_23 (by decide) ?_
    refine lv_icmp_gt (tgt := 32) hx hb dd_P_isOther_25 (by decide) (fun hc => ?_) (fun hc => ?_)
    · replace hf := qq_t hc hf
      exact hJ32  _ _ _ (lv_sub hl [] rfl) hP hD hS hf
    · replace hf := qq_f hc hf
      refine lv_iconst (v := 1) hx hb dd_P_isOther_28 (by decide) ?_
      refine lv_goto (tgt := 33) hx hb dd_P_isOther_29 (by decide) ?_
      exact hJ33 1 _ _ _ (lv_sub hl [] rfl) hP hD hS hf
theorem dd_P_passingTarget_0 : decode bb_P_passingTarget 0 = .ok (.aload_n 0, 1) := by decide +kernel
theorem dd_P_passingTarget_1 : decode bb_P_passingTarget 1 = .ok (.getfield 134, 3) := by decide +kernel
theorem dd_P_passingTarget_4 : decode bb_P_passingTarget 4 = .ok (.bipush 8, 2) := by decide +kernel
theorem dd_P_passingTarget_6 : decode bb_P_passingTarget 6 = .ok (.aload_n 0, 1) := by decide +kernel
theorem dd_P_passingTarget_7 : decode bb_P_passingTarget 7 = .ok (.getfield 68, 3) := by decide +kernel
theorem dd_P_passingTarget_10 : decode bb_P_passingTarget 10 = .ok (.ifCond .ne 7, 3) := by decide +kernel
theorem dd_P_passingTarget_13 : decode bb_P_passingTarget 13 = .ok (.iconst 5, 1) := by decide +kernel
theorem dd_P_passingTarget_14 : decode bb_P_passingTarget 14 = .ok (.goto 4, 3) := by decide +kernel
theorem dd_P_passingTarget_17 : decode bb_P_passingTarget 17 = .ok (.iconst 2, 1) := by decide +kernel
theorem dd_P_passingTarget_18 : decode bb_P_passingTarget 18 = .ok (.imul, 1) := by decide +kernel
theorem dd_P_passingTarget_19 : decode bb_P_passingTarget 19 = .ok (.iadd, 1) := by decide +kernel
theorem dd_P_passingTarget_20 : decode bb_P_passingTarget 20 = .ok (.ireturn, 1) := by decide +kernel
abbrev ty_P_passingTarget : Type := Int32
noncomputable def bk_P_passingTarget_18 (sd : Int32) (ps : Int32) (s0 : Int32) (s1 : Int32) (s2 : Int32) : Option ty_P_passingTarget := some (s0 + (s1 * s2))
noncomputable def fn_P_passingTarget (sd : Int32) (ps : Int32) : Option ty_P_passingTarget := if sd = 0 then (bk_P_passingTarget_18 sd ps ps 8 5) else (bk_P_passingTarget_18 sd ps ps 8 2)
abbrev rm_P_passingTarget : Room := { frames := 0, cells := 0, slots := 0, locals := 0 }
set_option maxHeartbeats 4000000 in
set_option maxRecDepth 100000 in
theorem ct_P_passingTarget (l : Launch) (dC : Nat → ClassId) (dI : Nat → Nat → Nat) (cI cL cR : ClassId) (oP osq okg : Nat) (sd : Int32) (rt : Int32) (ps : Int32) (sq : Nat → Int32) (kg : Nat → Int32) {rr : Int32} (hf : fn_P_passingTarget sd ps = some rr) : qq_det l yy_P_passingTarget (ww_of yy_P_passingTarget bb_P_passingTarget 1 (some .int)) rm_P_passingTarget (dC, dI) (qq_ty cI cL cR) [.ref oP] [(oP, .inr (1, [.ref osq, .ref okg, .int sd, .int rt, .int ps])), (osq, .inl (cI, 64, .inl sq)), (okg, .inl (cI, 2, .inl kg))] (some (.int rr)) [(oP, .inr (1, [.ref osq, .ref okg, .int sd, .int rt, .int ps])), (osq, .inl (cI, 64, .inl sq)), (okg, .inl (cI, 2, .inl kg))] := by
  refine qq_of (own := RR_P) (by decide) rfl (Nat.le_of_ble_eq_true rfl) ?_
  intro p e s m below meth c A Q ls hx hb hml hr hlocks hown hts hK hA hT hN hP hD hS hl hQ
  have hl : lv_has ls 1 [(0, .ref oP)] := hl
  have hJ18 : ∀ (s0 : Int32) (s1 : Int32) (s2 : Int32) (H : Heap) (locs : List Loc) (ls : Array Slot), lv_has ls 1 [] → va_P (dC, dI) classes [(oP, .inr (1, [.ref osq, .ref okg, .int sd, .int rt, .int ps])), (osq, .inl (cI, 64, .inl sq)), (okg, .inl (cI, 2, .inl kg))] H → va_D A [(oP, .inr (1, [.ref osq, .ref okg, .int sd, .int rt, .int ps])), (osq, .inl (cI, 64, .inl sq)), (okg, .inl (cI, 2, .inl kg))] → va_S A s.heap H locs → bk_P_passingTarget_18 sd ps s0 s1 s2 = some rr → W p l e rm_P_passingTarget s m ([.ref oP] : List Value).toArray below meth c H locs 0 0 Q (F0 m 18 ls [.int s2, .int s1, .int s0]) := by
    intro s0 s1 s2 H locs ls hl hP hD hS hf
    rw [bk_P_passingTarget_18] at hf
    refine lv_imul hx hb dd_P_passingTarget_18 ?_
    refine lv_iadd hx hb dd_P_passingTarget_19 ?_
    cases hf
    exact qq_iret hx hb hr hlocks hQ hP hD hK hS dd_P_passingTarget_20
  rw [fn_P_passingTarget] at hf
  refine lv_aload_n hx hb dd_P_passingTarget_0 rfl (lv_at hl 0 rfl) ?_
  refine va_get (D := (dC, dI)) (ci := 1) (v := .int ps) (C := RR_P) (T := FF_P) (N := 5) hx hb hts uu_P hown hK hP 0 rfl rfl 4 (by decide) (hts _ mm_13) (fun _ h9 => h9) rfl dd_P_passingTarget_1 ?_
  refine lv_bipush (v := 8) hx hb dd_P_passingTarget_4 (by decide) ?_
  refine lv_aload_n hx hb dd_P_passingTarget_6 rfl (lv_at hl 0 rfl) ?_
  refine va_get (D := (dC, dI)) (ci := 1) (v := .int sd) (C := RR_P) (T := FF_P) (N := 5) hx hb hts uu_P hown hK hP 0 rfl rfl 2 (by decide) (hts _ mm_12) (fun _ h9 => h9) rfl dd_P_passingTarget_7 ?_
  refine lv_if_ne (tgt := 17) hx hb dd_P_passingTarget_10 (by decide) (fun hc => ?_) (fun hc => ?_)
  · replace hf := qq_f hc hf
    refine lv_iconst (v := 2) hx hb dd_P_passingTarget_17 (by decide) ?_
    exact hJ18 ps 8 2 _ _ _ (lv_sub hl [] rfl) hP hD hS hf
  · replace hf := qq_t hc hf
    refine lv_iconst (v := 5) hx hb dd_P_passingTarget_13 (by decide) ?_
    refine lv_goto (tgt := 18) hx hb dd_P_passingTarget_14 (by decide) ?_
    exact hJ18 ps 8 5 _ _ _ (lv_sub hl [] rfl) hP hD hS hf
theorem dd_P_canPawnTake_0 : decode bb_P_canPawnTake 0 = .ok (.aload_n 0, 1) := by decide +kernel
theorem dd_P_canPawnTake_1 : decode bb_P_canPawnTake 1 = .ok (.iload_n 1, 1) := by decide +kernel
theorem dd_P_canPawnTake_2 : decode bb_P_canPawnTake 2 = .ok (.invokevirtual 128, 3) := by decide +kernel
theorem dd_P_canPawnTake_5 : decode bb_P_canPawnTake 5 = .ok (.ifCond .ne 19, 3) := by decide +kernel
theorem dd_P_canPawnTake_8 : decode bb_P_canPawnTake 8 = .ok (.aload_n 0, 1) := by decide +kernel
theorem dd_P_canPawnTake_9 : decode bb_P_canPawnTake 9 = .ok (.getfield 134, 3) := by decide +kernel
theorem dd_P_canPawnTake_12 : decode bb_P_canPawnTake 12 = .ok (.iconst (-1), 1) := by decide +kernel
theorem dd_P_canPawnTake_13 : decode bb_P_canPawnTake 13 = .ok (.if_icmp .eq 15, 3) := by decide +kernel
theorem dd_P_canPawnTake_16 : decode bb_P_canPawnTake 16 = .ok (.iload_n 1, 1) := by decide +kernel
theorem dd_P_canPawnTake_17 : decode bb_P_canPawnTake 17 = .ok (.aload_n 0, 1) := by decide +kernel
theorem dd_P_canPawnTake_18 : decode bb_P_canPawnTake 18 = .ok (.invokevirtual 137, 3) := by decide +kernel
theorem dd_P_canPawnTake_21 : decode bb_P_canPawnTake 21 = .ok (.if_icmp .ne 7, 3) := by decide +kernel
theorem dd_P_canPawnTake_24 : decode bb_P_canPawnTake 24 = .ok (.iconst 1, 1) := by decide +kernel
theorem dd_P_canPawnTake_25 : decode bb_P_canPawnTake 25 = .ok (.goto 4, 3) := by decide +kernel
theorem dd_P_canPawnTake_28 : decode bb_P_canPawnTake 28 = .ok (.iconst 0, 1) := by decide +kernel
theorem dd_P_canPawnTake_29 : decode bb_P_canPawnTake 29 = .ok (.ireturn, 1) := by decide +kernel
abbrev ty_P_canPawnTake : Type := Int32
noncomputable def bk_P_canPawnTake_29 (sd : Int32) (ps : Int32) (sq : Nat → Int32) (a1 : Int32) (s0 : Int32) : Option ty_P_canPawnTake := qq_ck (qq_b s0) <| some s0
noncomputable def bk_P_canPawnTake_28 (sd : Int32) (ps : Int32) (sq : Nat → Int32) (a1 : Int32) : Option ty_P_canPawnTake := bk_P_canPawnTake_29 sd ps sq a1 0
noncomputable def bk_P_canPawnTake_24 (sd : Int32) (ps : Int32) (sq : Nat → Int32) (a1 : Int32) : Option ty_P_canPawnTake := bk_P_canPawnTake_29 sd ps sq a1 1
noncomputable def fn_P_canPawnTake (sd : Int32) (ps : Int32) (sq : Nat → Int32) (a1 : Int32) : Option ty_P_canPawnTake := (fn_P_isOther sd sq a1).bind fun r1 => if r1 = 0 then (if ps = (-1) then (bk_P_canPawnTake_28 sd ps sq a1) else ((fn_P_passingTarget sd ps).bind fun r2 => if a1 = r2 then (bk_P_canPawnTake_24 sd ps sq a1) else (bk_P_canPawnTake_28 sd ps sq a1))) else (bk_P_canPawnTake_24 sd ps sq a1)
abbrev rm_P_canPawnTake : Room := { frames := 1, cells := 0, slots := 0, locals := 22 }
set_option maxHeartbeats 4000000 in
set_option maxRecDepth 100000 in
theorem ct_P_canPawnTake (l : Launch) (dC : Nat → ClassId) (dI : Nat → Nat → Nat) (cI cL cR : ClassId) (oP osq okg : Nat) (sd : Int32) (rt : Int32) (ps : Int32) (sq : Nat → Int32) (kg : Nat → Int32) (a1 : Int32) {rr : Int32} (hf : fn_P_canPawnTake sd ps sq a1 = some rr) : qq_det l yy_P_canPawnTake (ww_of yy_P_canPawnTake bb_P_canPawnTake 2 (some .boolean)) rm_P_canPawnTake (dC, dI) (qq_ty cI cL cR) [.ref oP, .int a1] [(oP, .inr (1, [.ref osq, .ref okg, .int sd, .int rt, .int ps])), (osq, .inl (cI, 64, .inl sq)), (okg, .inl (cI, 2, .inl kg))] (some (.int rr)) [(oP, .inr (1, [.ref osq, .ref okg, .int sd, .int rt, .int ps])), (osq, .inl (cI, 64, .inl sq)), (okg, .inl (cI, 2, .inl kg))] := by
  refine qq_of (own := RR_P) (by decide) rfl (Nat.le_of_ble_eq_true rfl) ?_
  intro p e s m below meth c A Q ls hx hb hml hr hlocks hown hts hK hA hT hN hP hD hS hl hQ
  have hl : lv_has ls 2 [(0, .ref oP), (1, .int a1)] := hl
  have hJ29 : ∀ (s0 : Int32) (H : Heap) (locs : List Loc) (ls : Array Slot), lv_has ls 2 [] → va_P (dC, dI) classes [(oP, .inr (1, [.ref osq, .ref okg, .int sd, .int rt, .int ps])), (osq, .inl (cI, 64, .inl sq)), (okg, .inl (cI, 2, .inl kg))] H → va_D A [(oP, .inr (1, [.ref osq, .ref okg, .int sd, .int rt, .int ps])), (osq, .inl (cI, 64, .inl sq)), (okg, .inl (cI, 2, .inl kg))] → va_S A s.heap H locs → bk_P_canPawnTake_29 sd ps sq a1 s0 = some rr → W p l e rm_P_canPawnTake s m ([.ref oP, .int a1] : List Value).toArray below meth c H locs 0 0 Q (F0 m 29 ls [.int s0]) := by
    intro s0 H locs ls hl hP hD hS hf
    rw [bk_P_canPawnTake_29] at hf
    obtain ⟨hzb, hf⟩ := qq_ckE hf
    cases hf
    exact qq_zret hx hb hr (qq_bE hzb) hlocks hQ hP hD hK hS dd_P_canPawnTake_29
  have hJ28 : ∀  (H : Heap) (locs : List Loc) (ls : Array Slot), lv_has ls 2 [] → va_P (dC, dI) classes [(oP, .inr (1, [.ref osq, .ref okg, .int sd, .int rt, .int ps])), (osq, .inl (cI, 64, .inl sq)), (okg, .inl (cI, 2, .inl kg))] H → va_D A [(oP, .inr (1, [.ref osq, .ref okg, .int sd, .int rt, .int ps])), (osq, .inl (cI, 64, .inl sq)), (okg, .inl (cI, 2, .inl kg))] → va_S A s.heap H locs → bk_P_canPawnTake_28 sd ps sq a1 = some rr → W p l e rm_P_canPawnTake s m ([.ref oP, .int a1] : List Value).toArray below meth c H locs 0 0 Q (F0 m 28 ls []) := by
    intro  H locs ls hl hP hD hS hf
    rw [bk_P_canPawnTake_28] at hf
    refine lv_iconst (v := 0) hx hb dd_P_canPawnTake_28 (by decide) ?_
    exact hJ29 0 _ _ _ (lv_sub hl [] rfl) hP hD hS hf
  have hJ24 : ∀  (H : Heap) (locs : List Loc) (ls : Array Slot), lv_has ls 2 [] → va_P (dC, dI) classes [(oP, .inr (1, [.ref osq, .ref okg, .int sd, .int rt, .int ps])), (osq, .inl (cI, 64, .inl sq)), (okg, .inl (cI, 2, .inl kg))] H → va_D A [(oP, .inr (1, [.ref osq, .ref okg, .int sd, .int rt, .int ps])), (osq, .inl (cI, 64, .inl sq)), (okg, .inl (cI, 2, .inl kg))] → va_S A s.heap H locs → bk_P_canPawnTake_24 sd ps sq a1 = some rr → W p l e rm_P_canPawnTake s m ([.ref oP, .int a1] : List Value).toArray below meth c H locs 0 0 Q (F0 m 24 ls []) := by
    intro  H locs ls hl hP hD hS hf
    rw [bk_P_canPawnTake_24] at hf
    refine lv_iconst (v := 1) hx hb dd_P_canPawnTake_24 (by decide) ?_
    refine lv_goto (tgt := 29) hx hb dd_P_canPawnTake_25 (by decide) ?_
    exact hJ29 1 _ _ _ (lv_sub hl [] rfl) hP hD hS hf
  rw [fn_P_canPawnTake] at hf
  refine lv_aload_n hx hb dd_P_canPawnTake_0 rfl (lv_at hl 0 rfl) ?_
  refine lv_iload_n hx hb dd_P_canPawnTake_1 rfl (lv_at hl 1 rfl) ?_
  obtain ⟨r1, hy1, hf⟩ := qq_bd hf
  refine qq_V (As := [.int a1]) (rest := []) (wr := []) (wf := [(oP, .inr (1, [.ref osq, .ref okg, .int sd, .int rt, .int ps])), (osq, .inl (cI, 64, .inl sq)), (okg, .inl (cI, 2, .inl kg))]) ⟨hx, hb, hml, hown, hts⟩ (ct_P_isOther l dC dI cI cL cR oP osq okg sd rt ps sq kg a1 hy1) mm_16 mm_17 mm_18 mm_14 mm_15 hd_P_isOther (by decide) qq_00 hP hD hK hS hA hT hN (q0 := 0) (ci := 1) rfl rfl [0, 1, 2] [] [0, 1, 2] rfl rfl rfl (by decide) rfl hl.1 rfl (Nat.le_of_ble_eq_true rfl) dd_P_canPawnTake_2 (fun H locs hP hD hS => ?_)
  refine W.eq (g2 := F0 m 5 ls [.int r1]) rfl ?_
  refine lv_if_ne (tgt := 24) hx hb dd_P_canPawnTake_5 (by decide) (fun hc => ?_) (fun hc => ?_)
  · replace hf := qq_f hc hf
    exact hJ24  _ _ _ (lv_sub hl [] rfl) hP hD hS hf
  · replace hf := qq_t hc hf
    refine lv_aload_n hx hb dd_P_canPawnTake_8 rfl (lv_at hl 0 rfl) ?_
    refine va_get (D := (dC, dI)) (ci := 1) (v := .int ps) (C := RR_P) (T := FF_P) (N := 5) hx hb hts uu_P hown hK hP 0 rfl rfl 4 (by decide) (hts _ mm_13) (fun _ h9 => h9) rfl dd_P_canPawnTake_9 ?_
    refine lv_iconst (v := (-1)) hx hb dd_P_canPawnTake_12 (by decide) ?_
    refine lv_icmp_eq (tgt := 28) hx hb dd_P_canPawnTake_13 (by decide) (fun hc => ?_) (fun hc => ?_)
    · replace hf := qq_t hc hf
      exact hJ28  _ _ _ (lv_sub hl [] rfl) hP hD hS hf
    · replace hf := qq_f hc hf
      refine lv_iload_n hx hb dd_P_canPawnTake_16 rfl (lv_at hl 1 rfl) ?_
      refine lv_aload_n hx hb dd_P_canPawnTake_17 rfl (lv_at hl 0 rfl) ?_
      obtain ⟨r2, hy2, hf⟩ := qq_bd hf
      refine qq_V (As := []) (rest := [.int a1]) (wr := []) (wf := [(oP, .inr (1, [.ref osq, .ref okg, .int sd, .int rt, .int ps])), (osq, .inl (cI, 64, .inl sq)), (okg, .inl (cI, 2, .inl kg))]) ⟨hx, hb, hml, hown, hts⟩ (ct_P_passingTarget l dC dI cI cL cR oP osq okg sd rt ps sq kg hy2) mm_20 mm_21 mm_22 mm_19 mm_15 hd_P_passingTarget (by decide) qq_00 hP hD hK hS hA hT hN (q0 := 0) (ci := 1) rfl rfl [0, 1, 2] [] [0, 1, 2] rfl rfl rfl (by decide) rfl hl.1 rfl (Nat.le_of_ble_eq_true rfl) dd_P_canPawnTake_18 (fun H locs hP hD hS => ?_)
      refine W.eq (g2 := F0 m 21 ls [.int r2, .int a1]) rfl ?_
      refine lv_icmp_ne (tgt := 28) hx hb dd_P_canPawnTake_21 (by decide) (fun hc => ?_) (fun hc => ?_)
      · replace hf := qq_f hc hf
        exact hJ28  _ _ _ (lv_sub hl [] rfl) hP hD hS hf
      · replace hf := qq_t hc hf
        exact hJ24  _ _ _ (lv_sub hl [] rfl) hP hD hS hf
theorem dd_P_targetsOfPawn_0 : decode bb_P_targetsOfPawn 0 = .ok (.aload_n 0, 1) := by decide +kernel
theorem dd_P_targetsOfPawn_1 : decode bb_P_targetsOfPawn 1 = .ok (.getfield 68, 3) := by decide +kernel
theorem dd_P_targetsOfPawn_4 : decode bb_P_targetsOfPawn 4 = .ok (.ifCond .ne 8, 3) := by decide +kernel
theorem dd_P_targetsOfPawn_7 : decode bb_P_targetsOfPawn 7 = .ok (.bipush 8, 2) := by decide +kernel
theorem dd_P_targetsOfPawn_9 : decode bb_P_targetsOfPawn 9 = .ok (.goto 5, 3) := by decide +kernel
theorem dd_P_targetsOfPawn_12 : decode bb_P_targetsOfPawn 12 = .ok (.bipush (-8), 2) := by decide +kernel
theorem dd_P_targetsOfPawn_14 : decode bb_P_targetsOfPawn 14 = .ok (.istore_n 2, 1) := by decide +kernel
theorem dd_P_targetsOfPawn_15 : decode bb_P_targetsOfPawn 15 = .ok (.iload_n 1, 1) := by decide +kernel
theorem dd_P_targetsOfPawn_16 : decode bb_P_targetsOfPawn 16 = .ok (.iload_n 2, 1) := by decide +kernel
theorem dd_P_targetsOfPawn_17 : decode bb_P_targetsOfPawn 17 = .ok (.iadd, 1) := by decide +kernel
theorem dd_P_targetsOfPawn_18 : decode bb_P_targetsOfPawn 18 = .ok (.istore_n 3, 1) := by decide +kernel
theorem dd_P_targetsOfPawn_19 : decode bb_P_targetsOfPawn 19 = .ok (.lconst 0, 1) := by decide +kernel
theorem dd_P_targetsOfPawn_20 : decode bb_P_targetsOfPawn 20 = .ok (.lstore 4, 2) := by decide +kernel
theorem dd_P_targetsOfPawn_22 : decode bb_P_targetsOfPawn 22 = .ok (.aload_n 0, 1) := by decide +kernel
theorem dd_P_targetsOfPawn_23 : decode bb_P_targetsOfPawn 23 = .ok (.getfield 9, 3) := by decide +kernel
theorem dd_P_targetsOfPawn_26 : decode bb_P_targetsOfPawn 26 = .ok (.iload_n 3, 1) := by decide +kernel
theorem dd_P_targetsOfPawn_27 : decode bb_P_targetsOfPawn 27 = .ok (.iaload, 1) := by decide +kernel
theorem dd_P_targetsOfPawn_28 : decode bb_P_targetsOfPawn 28 = .ok (.ifCond .ne 64, 3) := by decide +kernel
theorem dd_P_targetsOfPawn_31 : decode bb_P_targetsOfPawn 31 = .ok (.lload 4, 2) := by decide +kernel
theorem dd_P_targetsOfPawn_33 : decode bb_P_targetsOfPawn 33 = .ok (.lconst 1, 1) := by decide +kernel
theorem dd_P_targetsOfPawn_34 : decode bb_P_targetsOfPawn 34 = .ok (.iload_n 3, 1) := by decide +kernel
theorem dd_P_targetsOfPawn_35 : decode bb_P_targetsOfPawn 35 = .ok (.lshl, 1) := by decide +kernel
theorem dd_P_targetsOfPawn_36 : decode bb_P_targetsOfPawn 36 = .ok (.lor, 1) := by decide +kernel
theorem dd_P_targetsOfPawn_37 : decode bb_P_targetsOfPawn 37 = .ok (.lstore 4, 2) := by decide +kernel
theorem dd_P_targetsOfPawn_39 : decode bb_P_targetsOfPawn 39 = .ok (.iload_n 1, 1) := by decide +kernel
theorem dd_P_targetsOfPawn_40 : decode bb_P_targetsOfPawn 40 = .ok (.bipush 8, 2) := by decide +kernel
theorem dd_P_targetsOfPawn_42 : decode bb_P_targetsOfPawn 42 = .ok (.idiv, 1) := by decide +kernel
theorem dd_P_targetsOfPawn_43 : decode bb_P_targetsOfPawn 43 = .ok (.aload_n 0, 1) := by decide +kernel
theorem dd_P_targetsOfPawn_44 : decode bb_P_targetsOfPawn 44 = .ok (.getfield 68, 3) := by decide +kernel
theorem dd_P_targetsOfPawn_47 : decode bb_P_targetsOfPawn 47 = .ok (.ifCond .ne 7, 3) := by decide +kernel
theorem dd_P_targetsOfPawn_50 : decode bb_P_targetsOfPawn 50 = .ok (.iconst 1, 1) := by decide +kernel
theorem dd_P_targetsOfPawn_51 : decode bb_P_targetsOfPawn 51 = .ok (.goto 5, 3) := by decide +kernel
theorem dd_P_targetsOfPawn_54 : decode bb_P_targetsOfPawn 54 = .ok (.bipush 6, 2) := by decide +kernel
theorem dd_P_targetsOfPawn_56 : decode bb_P_targetsOfPawn 56 = .ok (.if_icmp .ne 7, 3) := by decide +kernel
theorem dd_P_targetsOfPawn_59 : decode bb_P_targetsOfPawn 59 = .ok (.iconst 1, 1) := by decide +kernel
theorem dd_P_targetsOfPawn_60 : decode bb_P_targetsOfPawn 60 = .ok (.goto 4, 3) := by decide +kernel
theorem dd_P_targetsOfPawn_63 : decode bb_P_targetsOfPawn 63 = .ok (.iconst 0, 1) := by decide +kernel
theorem dd_P_targetsOfPawn_64 : decode bb_P_targetsOfPawn 64 = .ok (.istore 6, 2) := by decide +kernel
theorem dd_P_targetsOfPawn_66 : decode bb_P_targetsOfPawn 66 = .ok (.iload 6, 2) := by decide +kernel
theorem dd_P_targetsOfPawn_68 : decode bb_P_targetsOfPawn 68 = .ok (.ifCond .eq 24, 3) := by decide +kernel
theorem dd_P_targetsOfPawn_71 : decode bb_P_targetsOfPawn 71 = .ok (.aload_n 0, 1) := by decide +kernel
theorem dd_P_targetsOfPawn_72 : decode bb_P_targetsOfPawn 72 = .ok (.getfield 9, 3) := by decide +kernel
theorem dd_P_targetsOfPawn_75 : decode bb_P_targetsOfPawn 75 = .ok (.iload_n 3, 1) := by decide +kernel
theorem dd_P_targetsOfPawn_76 : decode bb_P_targetsOfPawn 76 = .ok (.iload_n 2, 1) := by decide +kernel
theorem dd_P_targetsOfPawn_77 : decode bb_P_targetsOfPawn 77 = .ok (.iadd, 1) := by decide +kernel
theorem dd_P_targetsOfPawn_78 : decode bb_P_targetsOfPawn 78 = .ok (.iaload, 1) := by decide +kernel
theorem dd_P_targetsOfPawn_79 : decode bb_P_targetsOfPawn 79 = .ok (.ifCond .ne 13, 3) := by decide +kernel
theorem dd_P_targetsOfPawn_82 : decode bb_P_targetsOfPawn 82 = .ok (.lload 4, 2) := by decide +kernel
theorem dd_P_targetsOfPawn_84 : decode bb_P_targetsOfPawn 84 = .ok (.lconst 1, 1) := by decide +kernel
theorem dd_P_targetsOfPawn_85 : decode bb_P_targetsOfPawn 85 = .ok (.iload_n 3, 1) := by decide +kernel
theorem dd_P_targetsOfPawn_86 : decode bb_P_targetsOfPawn 86 = .ok (.iload_n 2, 1) := by decide +kernel
theorem dd_P_targetsOfPawn_87 : decode bb_P_targetsOfPawn 87 = .ok (.iadd, 1) := by decide +kernel
theorem dd_P_targetsOfPawn_88 : decode bb_P_targetsOfPawn 88 = .ok (.lshl, 1) := by decide +kernel
theorem dd_P_targetsOfPawn_89 : decode bb_P_targetsOfPawn 89 = .ok (.lor, 1) := by decide +kernel
theorem dd_P_targetsOfPawn_90 : decode bb_P_targetsOfPawn 90 = .ok (.lstore 4, 2) := by decide +kernel
theorem dd_P_targetsOfPawn_92 : decode bb_P_targetsOfPawn 92 = .ok (.iload_n 1, 1) := by decide +kernel
theorem dd_P_targetsOfPawn_93 : decode bb_P_targetsOfPawn 93 = .ok (.bipush 8, 2) := by decide +kernel
theorem dd_P_targetsOfPawn_95 : decode bb_P_targetsOfPawn 95 = .ok (.irem, 1) := by decide +kernel
theorem dd_P_targetsOfPawn_96 : decode bb_P_targetsOfPawn 96 = .ok (.ifCond .le 23, 3) := by decide +kernel
theorem dd_P_targetsOfPawn_99 : decode bb_P_targetsOfPawn 99 = .ok (.aload_n 0, 1) := by decide +kernel
theorem dd_P_targetsOfPawn_100 : decode bb_P_targetsOfPawn 100 = .ok (.iload_n 3, 1) := by decide +kernel
theorem dd_P_targetsOfPawn_101 : decode bb_P_targetsOfPawn 101 = .ok (.iconst 1, 1) := by decide +kernel
theorem dd_P_targetsOfPawn_102 : decode bb_P_targetsOfPawn 102 = .ok (.isub, 1) := by decide +kernel
theorem dd_P_targetsOfPawn_103 : decode bb_P_targetsOfPawn 103 = .ok (.invokevirtual 131, 3) := by decide +kernel
theorem dd_P_targetsOfPawn_106 : decode bb_P_targetsOfPawn 106 = .ok (.ifCond .eq 13, 3) := by decide +kernel
theorem dd_P_targetsOfPawn_109 : decode bb_P_targetsOfPawn 109 = .ok (.lload 4, 2) := by decide +kernel
theorem dd_P_targetsOfPawn_111 : decode bb_P_targetsOfPawn 111 = .ok (.lconst 1, 1) := by decide +kernel
theorem dd_P_targetsOfPawn_112 : decode bb_P_targetsOfPawn 112 = .ok (.iload_n 3, 1) := by decide +kernel
theorem dd_P_targetsOfPawn_113 : decode bb_P_targetsOfPawn 113 = .ok (.iconst 1, 1) := by decide +kernel
theorem dd_P_targetsOfPawn_114 : decode bb_P_targetsOfPawn 114 = .ok (.isub, 1) := by decide +kernel
theorem dd_P_targetsOfPawn_115 : decode bb_P_targetsOfPawn 115 = .ok (.lshl, 1) := by decide +kernel
theorem dd_P_targetsOfPawn_116 : decode bb_P_targetsOfPawn 116 = .ok (.lor, 1) := by decide +kernel
theorem dd_P_targetsOfPawn_117 : decode bb_P_targetsOfPawn 117 = .ok (.lstore 4, 2) := by decide +kernel
theorem dd_P_targetsOfPawn_119 : decode bb_P_targetsOfPawn 119 = .ok (.iload_n 1, 1) := by decide +kernel
theorem dd_P_targetsOfPawn_120 : decode bb_P_targetsOfPawn 120 = .ok (.bipush 8, 2) := by decide +kernel
theorem dd_P_targetsOfPawn_122 : decode bb_P_targetsOfPawn 122 = .ok (.irem, 1) := by decide +kernel
theorem dd_P_targetsOfPawn_123 : decode bb_P_targetsOfPawn 123 = .ok (.bipush 7, 2) := by decide +kernel
theorem dd_P_targetsOfPawn_125 : decode bb_P_targetsOfPawn 125 = .ok (.if_icmp .ge 23, 3) := by decide +kernel
theorem dd_P_targetsOfPawn_128 : decode bb_P_targetsOfPawn 128 = .ok (.aload_n 0, 1) := by decide +kernel
theorem dd_P_targetsOfPawn_129 : decode bb_P_targetsOfPawn 129 = .ok (.iload_n 3, 1) := by decide +kernel
theorem dd_P_targetsOfPawn_130 : decode bb_P_targetsOfPawn 130 = .ok (.iconst 1, 1) := by decide +kernel
theorem dd_P_targetsOfPawn_131 : decode bb_P_targetsOfPawn 131 = .ok (.iadd, 1) := by decide +kernel
theorem dd_P_targetsOfPawn_132 : decode bb_P_targetsOfPawn 132 = .ok (.invokevirtual 131, 3) := by decide +kernel
theorem dd_P_targetsOfPawn_135 : decode bb_P_targetsOfPawn 135 = .ok (.ifCond .eq 13, 3) := by decide +kernel
theorem dd_P_targetsOfPawn_138 : decode bb_P_targetsOfPawn 138 = .ok (.lload 4, 2) := by decide +kernel
theorem dd_P_targetsOfPawn_140 : decode bb_P_targetsOfPawn 140 = .ok (.lconst 1, 1) := by decide +kernel
theorem dd_P_targetsOfPawn_141 : decode bb_P_targetsOfPawn 141 = .ok (.iload_n 3, 1) := by decide +kernel
theorem dd_P_targetsOfPawn_142 : decode bb_P_targetsOfPawn 142 = .ok (.iconst 1, 1) := by decide +kernel
theorem dd_P_targetsOfPawn_143 : decode bb_P_targetsOfPawn 143 = .ok (.iadd, 1) := by decide +kernel
theorem dd_P_targetsOfPawn_144 : decode bb_P_targetsOfPawn 144 = .ok (.lshl, 1) := by decide +kernel
theorem dd_P_targetsOfPawn_145 : decode bb_P_targetsOfPawn 145 = .ok (.lor, 1) := by decide +kernel
theorem dd_P_targetsOfPawn_146 : decode bb_P_targetsOfPawn 146 = .ok (.lstore 4, 2) := by decide +kernel
theorem dd_P_targetsOfPawn_148 : decode bb_P_targetsOfPawn 148 = .ok (.lload 4, 2) := by decide +kernel
theorem dd_P_targetsOfPawn_150 : decode bb_P_targetsOfPawn 150 = .ok (.lreturn, 1) := by decide +kernel
abbrev ty_P_targetsOfPawn : Type := Int64
noncomputable def bk_P_targetsOfPawn_148 (sd : Int32) (ps : Int32) (sq : Nat → Int32) (a1 : Int32) (x4 : Int64) : Option ty_P_targetsOfPawn := some x4
noncomputable def bk_P_targetsOfPawn_119 (sd : Int32) (ps : Int32) (sq : Nat → Int32) (a1 : Int32) (x3 : Int32) (x4 : Int64) : Option ty_P_targetsOfPawn := if 7 ≤ (a1 - a1 / 8 * 8) then (bk_P_targetsOfPawn_148 sd ps sq a1 x4) else ((fn_P_canPawnTake sd ps sq (x3 + 1)).bind fun r2001 => if r2001 = 0 then (bk_P_targetsOfPawn_148 sd ps sq a1 x4) else (qq_let (x4 ||| ((1 : Int64) <<< ((x3 + 1).toInt64 &&& 63))) fun v2002 => bk_P_targetsOfPawn_148 sd ps sq a1 v2002))
noncomputable def bk_P_targetsOfPawn_92 (sd : Int32) (ps : Int32) (sq : Nat → Int32) (a1 : Int32) (x3 : Int32) (x4 : Int64) : Option ty_P_targetsOfPawn := if (a1 - a1 / 8 * 8) ≤ 0 then (bk_P_targetsOfPawn_119 sd ps sq a1 x3 x4) else ((fn_P_canPawnTake sd ps sq (x3 - 1)).bind fun r3001 => if r3001 = 0 then (bk_P_targetsOfPawn_119 sd ps sq a1 x3 x4) else (qq_let (x4 ||| ((1 : Int64) <<< ((x3 - 1).toInt64 &&& 63))) fun v3002 => bk_P_targetsOfPawn_119 sd ps sq a1 x3 v3002))
noncomputable def bk_P_targetsOfPawn_64 (sd : Int32) (ps : Int32) (sq : Nat → Int32) (a1 : Int32) (x2 : Int32) (x3 : Int32) (x4 : Int64) (s0 : Int32) : Option ty_P_targetsOfPawn := if s0 = 0 then (bk_P_targetsOfPawn_92 sd ps sq a1 x3 x4) else (qq_ck (qq_in (x3 + x2) 64) <| if (sq (x3 + x2).toNatClampNeg) = 0 then (qq_let (x4 ||| ((1 : Int64) <<< ((x3 + x2).toInt64 &&& 63))) fun v4002 => bk_P_targetsOfPawn_92 sd ps sq a1 x3 v4002) else (bk_P_targetsOfPawn_92 sd ps sq a1 x3 x4))
noncomputable def bk_P_targetsOfPawn_56 (sd : Int32) (ps : Int32) (sq : Nat → Int32) (a1 : Int32) (x2 : Int32) (x3 : Int32) (x4 : Int64) (s0 : Int32) (s1 : Int32) : Option ty_P_targetsOfPawn := if s0 = s1 then (bk_P_targetsOfPawn_64 sd ps sq a1 x2 x3 x4 1) else (bk_P_targetsOfPawn_64 sd ps sq a1 x2 x3 x4 0)
noncomputable def bk_P_targetsOfPawn_14 (sd : Int32) (ps : Int32) (sq : Nat → Int32) (a1 : Int32) (s0 : Int32) : Option ty_P_targetsOfPawn := qq_let (a1 + s0) fun v6001 => qq_let (0 : Int64) fun v6002 => qq_ck (qq_in v6001 64) <| if (sq v6001.toNatClampNeg) = 0 then (qq_let (v6002 ||| ((1 : Int64) <<< (v6001.toInt64 &&& 63))) fun v6004 => if sd = 0 then (bk_P_targetsOfPawn_56 sd ps sq a1 s0 v6001 v6004 (a1 / 8) 1) else (bk_P_targetsOfPawn_56 sd ps sq a1 s0 v6001 v6004 (a1 / 8) 6)) else (bk_P_targetsOfPawn_92 sd ps sq a1 v6001 v6002)
noncomputable def fn_P_targetsOfPawn (sd : Int32) (ps : Int32) (sq : Nat → Int32) (a1 : Int32) : Option ty_P_targetsOfPawn := if sd = 0 then (bk_P_targetsOfPawn_14 sd ps sq a1 8) else (bk_P_targetsOfPawn_14 sd ps sq a1 (-8))
abbrev rm_P_targetsOfPawn : Room := { frames := 2, cells := 0, slots := 0, locals := 43 }
set_option maxHeartbeats 4000000 in
set_option maxRecDepth 100000 in
theorem ct_P_targetsOfPawn (l : Launch) (dC : Nat → ClassId) (dI : Nat → Nat → Nat) (cI cL cR : ClassId) (oP osq okg : Nat) (sd : Int32) (rt : Int32) (ps : Int32) (sq : Nat → Int32) (kg : Nat → Int32) (a1 : Int32) {rr : Int64} (hf : fn_P_targetsOfPawn sd ps sq a1 = some rr) : qq_det l yy_P_targetsOfPawn (ww_of yy_P_targetsOfPawn bb_P_targetsOfPawn 7 (some .long)) rm_P_targetsOfPawn (dC, dI) (qq_ty cI cL cR) [.ref oP, .int a1] [(oP, .inr (1, [.ref osq, .ref okg, .int sd, .int rt, .int ps])), (osq, .inl (cI, 64, .inl sq)), (okg, .inl (cI, 2, .inl kg))] (some (.long rr)) [(oP, .inr (1, [.ref osq, .ref okg, .int sd, .int rt, .int ps])), (osq, .inl (cI, 64, .inl sq)), (okg, .inl (cI, 2, .inl kg))] := by
  refine qq_of (own := RR_P) (by decide) rfl (Nat.le_of_ble_eq_true rfl) ?_
  intro p e s m below meth c A Q ls hx hb hml hr hlocks hown hts hK hA hT hN hP hD hS hl hQ
  have hl : lv_has ls 7 [(0, .ref oP), (1, .int a1)] := hl
  have hJ148 : ∀ (x4 : Int64) (H : Heap) (locs : List Loc) (ls : Array Slot), lv_has ls 7 [(4, .long x4)] → va_P (dC, dI) classes [(oP, .inr (1, [.ref osq, .ref okg, .int sd, .int rt, .int ps])), (osq, .inl (cI, 64, .inl sq)), (okg, .inl (cI, 2, .inl kg))] H → va_D A [(oP, .inr (1, [.ref osq, .ref okg, .int sd, .int rt, .int ps])), (osq, .inl (cI, 64, .inl sq)), (okg, .inl (cI, 2, .inl kg))] → va_S A s.heap H locs → bk_P_targetsOfPawn_148 sd ps sq a1 x4 = some rr → W p l e rm_P_targetsOfPawn s m ([.ref oP, .int a1] : List Value).toArray below meth c H locs 0 0 Q (F0 m 148 ls []) := by
    intro x4 H locs ls hl hP hD hS hf
    rw [bk_P_targetsOfPawn_148] at hf
    refine lv_lload hx hb dd_P_targetsOfPawn_148 (lv_at hl 0 rfl) ?_
    cases hf
    exact qq_lret hx hb hr hlocks hQ hP hD hK hS dd_P_targetsOfPawn_150
  have hJ119 : ∀ (x3 : Int32) (x4 : Int64) (H : Heap) (locs : List Loc) (ls : Array Slot), lv_has ls 7 [(0, .ref oP), (1, .int a1), (3, .int x3), (4, .long x4)] → va_P (dC, dI) classes [(oP, .inr (1, [.ref osq, .ref okg, .int sd, .int rt, .int ps])), (osq, .inl (cI, 64, .inl sq)), (okg, .inl (cI, 2, .inl kg))] H → va_D A [(oP, .inr (1, [.ref osq, .ref okg, .int sd, .int rt, .int ps])), (osq, .inl (cI, 64, .inl sq)), (okg, .inl (cI, 2, .inl kg))] → va_S A s.heap H locs → bk_P_targetsOfPawn_119 sd ps sq a1 x3 x4 = some rr → W p l e rm_P_targetsOfPawn s m ([.ref oP, .int a1] : List Value).toArray below meth c H locs 0 0 Q (F0 m 119 ls []) := by
    intro x3 x4 H locs ls hl hP hD hS hf
    rw [bk_P_targetsOfPawn_119] at hf
    refine lv_iload_n hx hb dd_P_targetsOfPawn_119 rfl (lv_at hl 1 rfl) ?_
    refine lv_bipush (v := 8) hx hb dd_P_targetsOfPawn_120 (by decide) ?_
    refine lv_irem hx hb dd_P_targetsOfPawn_122 (by decide) ?_
    refine lv_bipush (v := 7) hx hb dd_P_targetsOfPawn_123 (by decide) ?_
    refine lv_icmp_ge (tgt := 148) hx hb dd_P_targetsOfPawn_125 (by decide) (fun hc => ?_) (fun hc => ?_)
    · replace hf := qq_t hc hf
      exact hJ148 x4 _ _ _ (lv_sub hl [3] rfl) hP hD hS hf
    · replace hf := qq_f hc hf
      refine lv_aload_n hx hb dd_P_targetsOfPawn_128 rfl (lv_at hl 0 rfl) ?_
      refine lv_iload_n hx hb dd_P_targetsOfPawn_129 rfl (lv_at hl 2 rfl) ?_
      refine lv_iconst (v := 1) hx hb dd_P_targetsOfPawn_130 (by decide) ?_
      refine lv_iadd hx hb dd_P_targetsOfPawn_131 ?_
      obtain ⟨r2001, hy2001, hf⟩ := qq_bd hf
      refine qq_V (As := [.int (x3 + 1)]) (rest := []) (wr := []) (wf := [(oP, .inr (1, [.ref osq, .ref okg, .int sd, .int rt, .int ps])), (osq, .inl (cI, 64, .inl sq)), (okg, .inl (cI, 2, .inl kg))]) ⟨hx, hb, hml, hown, hts⟩ (ct_P_canPawnTake l dC dI cI cL cR oP osq okg sd rt ps sq kg (x3 + 1) hy2001) mm_24 mm_25 mm_26 mm_23 mm_15 hd_P_canPawnTake (by decide) qq_00 hP hD hK hS hA hT hN (q0 := 0) (ci := 1) rfl rfl [0, 1, 2] [] [0, 1, 2] rfl rfl rfl (by decide) rfl hl.1 rfl (Nat.le_of_ble_eq_true rfl) dd_P_targetsOfPawn_132 (fun H locs hP hD hS => ?_)
      refine W.eq (g2 := F0 m 135 ls [.int r2001]) rfl ?_
      refine lv_if_eq (tgt := 148) hx hb dd_P_targetsOfPawn_135 (by decide) (fun hc => ?_) (fun hc => ?_)
      · replace hf := qq_t hc hf
        exact hJ148 x4 _ _ _ (lv_sub hl [3] rfl) hP hD hS hf
      · replace hf := qq_f hc hf
        refine lv_lload hx hb dd_P_targetsOfPawn_138 (lv_at hl 3 rfl) ?_
        refine lv_lconst (v := 1) hx hb dd_P_targetsOfPawn_140 (by decide) ?_
        refine lv_iload_n hx hb dd_P_targetsOfPawn_141 rfl (lv_at hl 2 rfl) ?_
        refine lv_iconst (v := 1) hx hb dd_P_targetsOfPawn_142 (by decide) ?_
        refine lv_iadd hx hb dd_P_targetsOfPawn_143 ?_
        refine lv_lshl (v := ((1 : Int64) <<< ((x3 + 1).toInt64 &&& 63))) hx hb dd_P_targetsOfPawn_144 rfl ?_
        refine lv_lor hx hb dd_P_targetsOfPawn_145 ?_
        refine lv_topl (fun v2002 ev2002 => ?_)
        replace hf := qq_lt ev2002 hf
        refine lv_lstore (lv' := [(4, .long v2002), (0, .ref oP), (1, .int a1), (3, .int x3)]) hx hb dd_P_targetsOfPawn_146 hl (by decide) rfl (fun ls hl => ?_)
        exact hJ148 v2002 _ _ _ (lv_sub hl [0] rfl) hP hD hS hf
  have hJ92 : ∀ (x3 : Int32) (x4 : Int64) (H : Heap) (locs : List Loc) (ls : Array Slot), lv_has ls 7 [(0, .ref oP), (1, .int a1), (3, .int x3), (4, .long x4)] → va_P (dC, dI) classes [(oP, .inr (1, [.ref osq, .ref okg, .int sd, .int rt, .int ps])), (osq, .inl (cI, 64, .inl sq)), (okg, .inl (cI, 2, .inl kg))] H → va_D A [(oP, .inr (1, [.ref osq, .ref okg, .int sd, .int rt, .int ps])), (osq, .inl (cI, 64, .inl sq)), (okg, .inl (cI, 2, .inl kg))] → va_S A s.heap H locs → bk_P_targetsOfPawn_92 sd ps sq a1 x3 x4 = some rr → W p l e rm_P_targetsOfPawn s m ([.ref oP, .int a1] : List Value).toArray below meth c H locs 0 0 Q (F0 m 92 ls []) := by
    intro x3 x4 H locs ls hl hP hD hS hf
    rw [bk_P_targetsOfPawn_92] at hf
    refine lv_iload_n hx hb dd_P_targetsOfPawn_92 rfl (lv_at hl 1 rfl) ?_
    refine lv_bipush (v := 8) hx hb dd_P_targetsOfPawn_93 (by decide) ?_
    refine lv_irem hx hb dd_P_targetsOfPawn_95 (by decide) ?_
    refine lv_if_le (tgt := 119) hx hb dd_P_targetsOfPawn_96 (by decide) (fun hc => ?_) (fun hc => ?_)
    · replace hf := qq_t hc hf
      exact hJ119 x3 x4 _ _ _ (lv_sub hl [0, 1, 2, 3] rfl) hP hD hS hf
    · replace hf := qq_f hc hf
      refine lv_aload_n hx hb dd_P_targetsOfPawn_99 rfl (lv_at hl 0 rfl) ?_
      refine lv_iload_n hx hb dd_P_targetsOfPawn_100 rfl (lv_at hl 2 rfl) ?_
      refine lv_iconst (v := 1) hx hb dd_P_targetsOfPawn_101 (by decide) ?_
      refine lv_isub hx hb dd_P_targetsOfPawn_102 ?_
      obtain ⟨r3001, hy3001, hf⟩ := qq_bd hf
      refine qq_V (As := [.int (x3 - 1)]) (rest := []) (wr := []) (wf := [(oP, .inr (1, [.ref osq, .ref okg, .int sd, .int rt, .int ps])), (osq, .inl (cI, 64, .inl sq)), (okg, .inl (cI, 2, .inl kg))]) ⟨hx, hb, hml, hown, hts⟩ (ct_P_canPawnTake l dC dI cI cL cR oP osq okg sd rt ps sq kg (x3 - 1) hy3001) mm_24 mm_25 mm_26 mm_23 mm_15 hd_P_canPawnTake (by decide) qq_00 hP hD hK hS hA hT hN (q0 := 0) (ci := 1) rfl rfl [0, 1, 2] [] [0, 1, 2] rfl rfl rfl (by decide) rfl hl.1 rfl (Nat.le_of_ble_eq_true rfl) dd_P_targetsOfPawn_103 (fun H locs hP hD hS => ?_)
      refine W.eq (g2 := F0 m 106 ls [.int r3001]) rfl ?_
      refine lv_if_eq (tgt := 119) hx hb dd_P_targetsOfPawn_106 (by decide) (fun hc => ?_) (fun hc => ?_)
      · replace hf := qq_t hc hf
        exact hJ119 x3 x4 _ _ _ (lv_sub hl [0, 1, 2, 3] rfl) hP hD hS hf
      · replace hf := qq_f hc hf
        refine lv_lload hx hb dd_P_targetsOfPawn_109 (lv_at hl 3 rfl) ?_
        refine lv_lconst (v := 1) hx hb dd_P_targetsOfPawn_111 (by decide) ?_
        refine lv_iload_n hx hb dd_P_targetsOfPawn_112 rfl (lv_at hl 2 rfl) ?_
        refine lv_iconst (v := 1) hx hb dd_P_targetsOfPawn_113 (by decide) ?_
        refine lv_isub hx hb dd_P_targetsOfPawn_114 ?_
        refine lv_lshl (v := ((1 : Int64) <<< ((x3 - 1).toInt64 &&& 63))) hx hb dd_P_targetsOfPawn_115 rfl ?_
        refine lv_lor hx hb dd_P_targetsOfPawn_116 ?_
        refine lv_topl (fun v3002 ev3002 => ?_)
        replace hf := qq_lt ev3002 hf
        refine lv_lstore (lv' := [(4, .long v3002), (0, .ref oP), (1, .int a1), (3, .int x3)]) hx hb dd_P_targetsOfPawn_117 hl (by decide) rfl (fun ls hl => ?_)
        exact hJ119 x3 v3002 _ _ _ (lv_sub hl [1, 2, 3, 0] rfl) hP hD hS hf
  have hJ64 : ∀ (x2 : Int32) (x3 : Int32) (x4 : Int64) (s0 : Int32) (H : Heap) (locs : List Loc) (ls : Array Slot), lv_has ls 7 [(0, .ref oP), (1, .int a1), (2, .int x2), (3, .int x3), (4, .long x4)] → va_P (dC, dI) classes [(oP, .inr (1, [.ref osq, .ref okg, .int sd, .int rt, .int ps])), (osq, .inl (cI, 64, .inl sq)), (okg, .inl (cI, 2, .inl kg))] H → va_D A [(oP, .inr (1, [.ref osq, .ref okg, .int sd, .int rt, .int ps])), (osq, .inl (cI, 64, .inl sq)), (okg, .inl (cI, 2, .inl kg))] → va_S A s.heap H locs → bk_P_targetsOfPawn_64 sd ps sq a1 x2 x3 x4 s0 = some rr → W p l e rm_P_targetsOfPawn s m ([.ref oP, .int a1] : List Value).toArray below meth c H locs 0 0 Q (F0 m 64 ls [.int s0]) := by
    intro x2 x3 x4 s0 H locs ls hl hP hD hS hf
    rw [bk_P_targetsOfPawn_64] at hf
    refine lv_istore (lv' := [(6, .int s0), (0, .ref oP), (1, .int a1), (2, .int x2), (3, .int x3), (4, .long x4)]) hx hb dd_P_targetsOfPawn_64 hl (by decide) rfl (fun ls hl => ?_)
    refine lv_iload hx hb dd_P_targetsOfPawn_66 (lv_at hl 0 rfl) ?_
    refine lv_if_eq (tgt := 92) hx hb dd_P_targetsOfPawn_68 (by decide) (fun hc => ?_) (fun hc => ?_)
    · replace hf := qq_t hc hf
      exact hJ92 x3 x4 _ _ _ (lv_sub hl [1, 2, 4, 5] rfl) hP hD hS hf
    · replace hf := qq_f hc hf
      refine lv_aload_n hx hb dd_P_targetsOfPawn_71 rfl (lv_at hl 1 rfl) ?_
      refine va_get (D := (dC, dI)) (ci := 1) (v := .ref osq) (C := RR_P) (T := FF_P) (N := 5) hx hb hts uu_P hown hK hP 0 rfl rfl 0 (by decide) (hts _ mm_11) (fun _ h9 => h9) rfl dd_P_targetsOfPawn_72 ?_
      refine lv_iload_n hx hb dd_P_targetsOfPawn_75 rfl (lv_at hl 4 rfl) ?_
      refine lv_iload_n hx hb dd_P_targetsOfPawn_76 rfl (lv_at hl 3 rfl) ?_
      refine lv_iadd hx hb dd_P_targetsOfPawn_77 ?_
      obtain ⟨hi4001, hf⟩ := qq_ckE hf
      refine va_iald (D := (dC, dI)) (f := sq) (n := 64) (cA := cI) hx hb hK hP 1 0 rfl rfl (qq_inE hi4001) dd_P_targetsOfPawn_78 ?_
      refine lv_if_ne (tgt := 92) hx hb dd_P_targetsOfPawn_79 (by decide) (fun hc => ?_) (fun hc => ?_)
      · replace hf := qq_f hc hf
        exact hJ92 x3 x4 _ _ _ (lv_sub hl [1, 2, 4, 5] rfl) hP hD hS hf
      · replace hf := qq_t hc hf
        refine lv_lload hx hb dd_P_targetsOfPawn_82 (lv_at hl 5 rfl) ?_
        refine lv_lconst (v := 1) hx hb dd_P_targetsOfPawn_84 (by decide) ?_
        refine lv_iload_n hx hb dd_P_targetsOfPawn_85 rfl (lv_at hl 4 rfl) ?_
        refine lv_iload_n hx hb dd_P_targetsOfPawn_86 rfl (lv_at hl 3 rfl) ?_
        refine lv_iadd hx hb dd_P_targetsOfPawn_87 ?_
        refine lv_lshl (v := ((1 : Int64) <<< ((x3 + x2).toInt64 &&& 63))) hx hb dd_P_targetsOfPawn_88 rfl ?_
        refine lv_lor hx hb dd_P_targetsOfPawn_89 ?_
        refine lv_topl (fun v4002 ev4002 => ?_)
        replace hf := qq_lt ev4002 hf
        refine lv_lstore (lv' := [(4, .long v4002), (6, .int s0), (0, .ref oP), (1, .int a1), (2, .int x2), (3, .int x3)]) hx hb dd_P_targetsOfPawn_90 hl (by decide) rfl (fun ls hl => ?_)
        exact hJ92 x3 v4002 _ _ _ (lv_sub hl [2, 3, 5, 0] rfl) hP hD hS hf
  have hJ56 : ∀ (x2 : Int32) (x3 : Int32) (x4 : Int64) (s0 : Int32) (s1 : Int32) (H : Heap) (locs : List Loc) (ls : Array Slot), lv_has ls 7 [(0, .ref oP), (1, .int a1), (2, .int x2), (3, .int x3), (4, .long x4)] → va_P (dC, dI) classes [(oP, .inr (1, [.ref osq, .ref okg, .int sd, .int rt, .int ps])), (osq, .inl (cI, 64, .inl sq)), (okg, .inl (cI, 2, .inl kg))] H → va_D A [(oP, .inr (1, [.ref osq, .ref okg, .int sd, .int rt, .int ps])), (osq, .inl (cI, 64, .inl sq)), (okg, .inl (cI, 2, .inl kg))] → va_S A s.heap H locs → bk_P_targetsOfPawn_56 sd ps sq a1 x2 x3 x4 s0 s1 = some rr → W p l e rm_P_targetsOfPawn s m ([.ref oP, .int a1] : List Value).toArray below meth c H locs 0 0 Q (F0 m 56 ls [.int s1, .int s0]) := by
    intro x2 x3 x4 s0 s1 H locs ls hl hP hD hS hf
    rw [bk_P_targetsOfPawn_56] at hf
    refine lv_icmp_ne (tgt := 63) hx hb dd_P_targetsOfPawn_56 (by decide) (fun hc => ?_) (fun hc => ?_)
    · replace hf := qq_f hc hf
      refine lv_iconst (v := 0) hx hb dd_P_targetsOfPawn_63 (by decide) ?_
      exact hJ64 x2 x3 x4 0 _ _ _ (lv_sub hl [0, 1, 2, 3, 4] rfl) hP hD hS hf
    · replace hf := qq_t hc hf
      refine lv_iconst (v := 1) hx hb dd_P_targetsOfPawn_59 (by decide) ?_
      refine lv_goto (tgt := 64) hx hb dd_P_targetsOfPawn_60 (by decide) ?_
      exact hJ64 x2 x3 x4 1 _ _ _ (lv_sub hl [0, 1, 2, 3, 4] rfl) hP hD hS hf
  have hJ14 : ∀ (s0 : Int32) (H : Heap) (locs : List Loc) (ls : Array Slot), lv_has ls 7 [(0, .ref oP), (1, .int a1)] → va_P (dC, dI) classes [(oP, .inr (1, [.ref osq, .ref okg, .int sd, .int rt, .int ps])), (osq, .inl (cI, 64, .inl sq)), (okg, .inl (cI, 2, .inl kg))] H → va_D A [(oP, .inr (1, [.ref osq, .ref okg, .int sd, .int rt, .int ps])), (osq, .inl (cI, 64, .inl sq)), (okg, .inl (cI, 2, .inl kg))] → va_S A s.heap H locs → bk_P_targetsOfPawn_14 sd ps sq a1 s0 = some rr → W p l e rm_P_targetsOfPawn s m ([.ref oP, .int a1] : List Value).toArray below meth c H locs 0 0 Q (F0 m 14 ls [.int s0]) := by
    intro s0 H locs ls hl hP hD hS hf
    rw [bk_P_targetsOfPawn_14] at hf
    refine lv_istore_n (lv' := [(2, .int s0), (0, .ref oP), (1, .int a1)]) hx hb dd_P_targetsOfPawn_14 rfl hl (by decide) rfl (fun ls hl => ?_)
    refine lv_iload_n hx hb dd_P_targetsOfPawn_15 rfl (lv_at hl 2 rfl) ?_
    refine lv_iload_n hx hb dd_P_targetsOfPawn_16 rfl (lv_at hl 0 rfl) ?_
    refine lv_iadd hx hb dd_P_targetsOfPawn_17 ?_
    refine lv_topi (fun v6001 ev6001 => ?_)
    replace hf := qq_lt ev6001 hf
    refine lv_istore_n (lv' := [(3, .int v6001), (2, .int s0), (0, .ref oP), (1, .int a1)]) hx hb dd_P_targetsOfPawn_18 rfl hl (by decide) rfl (fun ls hl => ?_)
    refine lv_lconst (v := 0) hx hb dd_P_targetsOfPawn_19 (by decide) ?_
    refine lv_topl (fun v6002 ev6002 => ?_)
    replace hf := qq_lt ev6002 hf
    refine lv_lstore (lv' := [(4, .long v6002), (3, .int v6001), (2, .int s0), (0, .ref oP), (1, .int a1)]) hx hb dd_P_targetsOfPawn_20 hl (by decide) rfl (fun ls hl => ?_)
    refine lv_aload_n hx hb dd_P_targetsOfPawn_22 rfl (lv_at hl 3 rfl) ?_
    refine va_get (D := (dC, dI)) (ci := 1) (v := .ref osq) (C := RR_P) (T := FF_P) (N := 5) hx hb hts uu_P hown hK hP 0 rfl rfl 0 (by decide) (hts _ mm_11) (fun _ h9 => h9) rfl dd_P_targetsOfPawn_23 ?_
    refine lv_iload_n hx hb dd_P_targetsOfPawn_26 rfl (lv_at hl 1 rfl) ?_
    obtain ⟨hi6003, hf⟩ := qq_ckE hf
    refine va_iald (D := (dC, dI)) (f := sq) (n := 64) (cA := cI) hx hb hK hP 1 0 rfl rfl (qq_inE hi6003) dd_P_targetsOfPawn_27 ?_
    refine lv_if_ne (tgt := 92) hx hb dd_P_targetsOfPawn_28 (by decide) (fun hc => ?_) (fun hc => ?_)
    · replace hf := qq_f hc hf
      exact hJ92 v6001 v6002 _ _ _ (lv_sub hl [3, 4, 1, 0] rfl) hP hD hS hf
    · replace hf := qq_t hc hf
      refine lv_lload hx hb dd_P_targetsOfPawn_31 (lv_at hl 0 rfl) ?_
      refine lv_lconst (v := 1) hx hb dd_P_targetsOfPawn_33 (by decide) ?_
      refine lv_iload_n hx hb dd_P_targetsOfPawn_34 rfl (lv_at hl 1 rfl) ?_
      refine lv_lshl (v := ((1 : Int64) <<< (v6001.toInt64 &&& 63))) hx hb dd_P_targetsOfPawn_35 rfl ?_
      refine lv_lor hx hb dd_P_targetsOfPawn_36 ?_
      refine lv_topl (fun v6004 ev6004 => ?_)
      replace hf := qq_lt ev6004 hf
      refine lv_lstore (lv' := [(4, .long v6004), (3, .int v6001), (2, .int s0), (0, .ref oP), (1, .int a1)]) hx hb dd_P_targetsOfPawn_37 hl (by decide) rfl (fun ls hl => ?_)
      refine lv_iload_n hx hb dd_P_targetsOfPawn_39 rfl (lv_at hl 4 rfl) ?_
      refine lv_bipush (v := 8) hx hb dd_P_targetsOfPawn_40 (by decide) ?_
      refine lv_idiv hx hb dd_P_targetsOfPawn_42 (by decide) ?_
      refine lv_aload_n hx hb dd_P_targetsOfPawn_43 rfl (lv_at hl 3 rfl) ?_
      refine va_get (D := (dC, dI)) (ci := 1) (v := .int sd) (C := RR_P) (T := FF_P) (N := 5) hx hb hts uu_P hown hK hP 0 rfl rfl 2 (by decide) (hts _ mm_12) (fun _ h9 => h9) rfl dd_P_targetsOfPawn_44 ?_
      refine lv_if_ne (tgt := 54) hx hb dd_P_targetsOfPawn_47 (by decide) (fun hc => ?_) (fun hc => ?_)
      · replace hf := qq_f hc hf
        refine lv_bipush (v := 6) hx hb dd_P_targetsOfPawn_54 (by decide) ?_
        exact hJ56 s0 v6001 v6004 (a1 / 8) 6 _ _ _ (lv_sub hl [3, 4, 2, 1, 0] rfl) hP hD hS hf
      · replace hf := qq_t hc hf
        refine lv_iconst (v := 1) hx hb dd_P_targetsOfPawn_50 (by decide) ?_
        refine lv_goto (tgt := 56) hx hb dd_P_targetsOfPawn_51 (by decide) ?_
        exact hJ56 s0 v6001 v6004 (a1 / 8) 1 _ _ _ (lv_sub hl [3, 4, 2, 1, 0] rfl) hP hD hS hf
  rw [fn_P_targetsOfPawn] at hf
  refine lv_aload_n hx hb dd_P_targetsOfPawn_0 rfl (lv_at hl 0 rfl) ?_
  refine va_get (D := (dC, dI)) (ci := 1) (v := .int sd) (C := RR_P) (T := FF_P) (N := 5) hx hb hts uu_P hown hK hP 0 rfl rfl 2 (by decide) (hts _ mm_12) (fun _ h9 => h9) rfl dd_P_targetsOfPawn_1 ?_
  refine lv_if_ne (tgt := 12) hx hb dd_P_targetsOfPawn_4 (by decide) (fun hc => ?_) (fun hc => ?_)
  · replace hf := qq_f hc hf
    refine lv_bipush (v := (-8)) hx hb dd_P_targetsOfPawn_12 (by decide) ?_
    exact hJ14 (-8) _ _ _ (lv_sub hl [0, 1] rfl) hP hD hS hf
  · replace hf := qq_t hc hf
    refine lv_bipush (v := 8) hx hb dd_P_targetsOfPawn_7 (by decide) ?_
    refine lv_goto (tgt := 14) hx hb dd_P_targetsOfPawn_9 (by decide) ?_
    exact hJ14 8 _ _ _ (lv_sub hl [0, 1] rfl) hP hD hS hf
theorem dd_JL_bitCount_0 : decode bb_JL_bitCount 0 = .ok (.lload_n 0, 1) := by decide +kernel
theorem dd_JL_bitCount_1 : decode bb_JL_bitCount 1 = .ok (.lload_n 0, 1) := by decide +kernel
theorem dd_JL_bitCount_2 : decode bb_JL_bitCount 2 = .ok (.iconst 1, 1) := by decide +kernel
theorem dd_JL_bitCount_3 : decode bb_JL_bitCount 3 = .ok (.lushr, 1) := by decide +kernel
theorem dd_JL_bitCount_4 : decode bb_JL_bitCount 4 = .ok (.ldc2_w 314, 3) := by decide +kernel
theorem dd_JL_bitCount_7 : decode bb_JL_bitCount 7 = .ok (.land, 1) := by decide +kernel
theorem dd_JL_bitCount_8 : decode bb_JL_bitCount 8 = .ok (.lsub, 1) := by decide +kernel
theorem dd_JL_bitCount_9 : decode bb_JL_bitCount 9 = .ok (.lstore_n 0, 1) := by decide +kernel
theorem dd_JL_bitCount_10 : decode bb_JL_bitCount 10 = .ok (.lload_n 0, 1) := by decide +kernel
theorem dd_JL_bitCount_11 : decode bb_JL_bitCount 11 = .ok (.ldc2_w 316, 3) := by decide +kernel
theorem dd_JL_bitCount_14 : decode bb_JL_bitCount 14 = .ok (.land, 1) := by decide +kernel
theorem dd_JL_bitCount_15 : decode bb_JL_bitCount 15 = .ok (.lload_n 0, 1) := by decide +kernel
theorem dd_JL_bitCount_16 : decode bb_JL_bitCount 16 = .ok (.iconst 2, 1) := by decide +kernel
theorem dd_JL_bitCount_17 : decode bb_JL_bitCount 17 = .ok (.lushr, 1) := by decide +kernel
theorem dd_JL_bitCount_18 : decode bb_JL_bitCount 18 = .ok (.ldc2_w 316, 3) := by decide +kernel
theorem dd_JL_bitCount_21 : decode bb_JL_bitCount 21 = .ok (.land, 1) := by decide +kernel
theorem dd_JL_bitCount_22 : decode bb_JL_bitCount 22 = .ok (.ladd, 1) := by decide +kernel
theorem dd_JL_bitCount_23 : decode bb_JL_bitCount 23 = .ok (.lstore_n 0, 1) := by decide +kernel
theorem dd_JL_bitCount_24 : decode bb_JL_bitCount 24 = .ok (.lload_n 0, 1) := by decide +kernel
theorem dd_JL_bitCount_25 : decode bb_JL_bitCount 25 = .ok (.lload_n 0, 1) := by decide +kernel
theorem dd_JL_bitCount_26 : decode bb_JL_bitCount 26 = .ok (.iconst 4, 1) := by decide +kernel
theorem dd_JL_bitCount_27 : decode bb_JL_bitCount 27 = .ok (.lushr, 1) := by decide +kernel
theorem dd_JL_bitCount_28 : decode bb_JL_bitCount 28 = .ok (.ladd, 1) := by decide +kernel
theorem dd_JL_bitCount_29 : decode bb_JL_bitCount 29 = .ok (.ldc2_w 318, 3) := by decide +kernel
theorem dd_JL_bitCount_32 : decode bb_JL_bitCount 32 = .ok (.land, 1) := by decide +kernel
theorem dd_JL_bitCount_33 : decode bb_JL_bitCount 33 = .ok (.lstore_n 0, 1) := by decide +kernel
theorem dd_JL_bitCount_34 : decode bb_JL_bitCount 34 = .ok (.lload_n 0, 1) := by decide +kernel
theorem dd_JL_bitCount_35 : decode bb_JL_bitCount 35 = .ok (.lload_n 0, 1) := by decide +kernel
theorem dd_JL_bitCount_36 : decode bb_JL_bitCount 36 = .ok (.bipush 8, 2) := by decide +kernel
theorem dd_JL_bitCount_38 : decode bb_JL_bitCount 38 = .ok (.lushr, 1) := by decide +kernel
theorem dd_JL_bitCount_39 : decode bb_JL_bitCount 39 = .ok (.ladd, 1) := by decide +kernel
theorem dd_JL_bitCount_40 : decode bb_JL_bitCount 40 = .ok (.lstore_n 0, 1) := by decide +kernel
theorem dd_JL_bitCount_41 : decode bb_JL_bitCount 41 = .ok (.lload_n 0, 1) := by decide +kernel
theorem dd_JL_bitCount_42 : decode bb_JL_bitCount 42 = .ok (.lload_n 0, 1) := by decide +kernel
theorem dd_JL_bitCount_43 : decode bb_JL_bitCount 43 = .ok (.bipush 16, 2) := by decide +kernel
theorem dd_JL_bitCount_45 : decode bb_JL_bitCount 45 = .ok (.lushr, 1) := by decide +kernel
theorem dd_JL_bitCount_46 : decode bb_JL_bitCount 46 = .ok (.ladd, 1) := by decide +kernel
theorem dd_JL_bitCount_47 : decode bb_JL_bitCount 47 = .ok (.lstore_n 0, 1) := by decide +kernel
theorem dd_JL_bitCount_48 : decode bb_JL_bitCount 48 = .ok (.lload_n 0, 1) := by decide +kernel
theorem dd_JL_bitCount_49 : decode bb_JL_bitCount 49 = .ok (.lload_n 0, 1) := by decide +kernel
theorem dd_JL_bitCount_50 : decode bb_JL_bitCount 50 = .ok (.bipush 32, 2) := by decide +kernel
theorem dd_JL_bitCount_52 : decode bb_JL_bitCount 52 = .ok (.lushr, 1) := by decide +kernel
theorem dd_JL_bitCount_53 : decode bb_JL_bitCount 53 = .ok (.ladd, 1) := by decide +kernel
theorem dd_JL_bitCount_54 : decode bb_JL_bitCount 54 = .ok (.lstore_n 0, 1) := by decide +kernel
theorem dd_JL_bitCount_55 : decode bb_JL_bitCount 55 = .ok (.lload_n 0, 1) := by decide +kernel
theorem dd_JL_bitCount_56 : decode bb_JL_bitCount 56 = .ok (.l2i, 1) := by decide +kernel
theorem dd_JL_bitCount_57 : decode bb_JL_bitCount 57 = .ok (.bipush 127, 2) := by decide +kernel
theorem dd_JL_bitCount_59 : decode bb_JL_bitCount 59 = .ok (.iand, 1) := by decide +kernel
theorem dd_JL_bitCount_60 : decode bb_JL_bitCount 60 = .ok (.ireturn, 1) := by decide +kernel
abbrev ty_JL_bitCount : Type := Int32
noncomputable def fn_JL_bitCount (a0 : Int64) : Option ty_JL_bitCount := qq_let (a0 - (((a0.toUInt64 >>> ((1 : Int32).toInt64.toUInt64 &&& Int64.toUInt64 63)).toInt64) &&& (6148914691236517205 : Int64))) fun v1 => qq_let ((v1 &&& (3689348814741910323 : Int64)) + (((v1.toUInt64 >>> ((2 : Int32).toInt64.toUInt64 &&& Int64.toUInt64 63)).toInt64) &&& (3689348814741910323 : Int64))) fun v2 => qq_let ((v2 + ((v2.toUInt64 >>> ((4 : Int32).toInt64.toUInt64 &&& Int64.toUInt64 63)).toInt64)) &&& (1085102592571150095 : Int64)) fun v3 => qq_let (v3 + ((v3.toUInt64 >>> ((8 : Int32).toInt64.toUInt64 &&& Int64.toUInt64 63)).toInt64)) fun v4 => qq_let (v4 + ((v4.toUInt64 >>> ((16 : Int32).toInt64.toUInt64 &&& Int64.toUInt64 63)).toInt64)) fun v5 => qq_let (v5 + ((v5.toUInt64 >>> ((32 : Int32).toInt64.toUInt64 &&& Int64.toUInt64 63)).toInt64)) fun v6 => some (v6.toInt32 &&& 127)
abbrev rm_JL_bitCount : Room := { frames := 0, cells := 0, slots := 0, locals := 0 }
set_option maxHeartbeats 4000000 in
set_option maxRecDepth 100000 in
theorem ct_JL_bitCount (l : Launch) (dC : Nat → ClassId) (dI : Nat → Nat → Nat) (cI cL cR : ClassId) (a0 : Int64) {rr : Int32} (hf : fn_JL_bitCount a0 = some rr) : qq_det l yy_JL_bitCount (ww_of yy_JL_bitCount bb_JL_bitCount 2 (some .int)) rm_JL_bitCount (dC, dI) (qq_ty cI cL cR) [.long a0] [] (some (.int rr)) [] := by
  refine qq_of (own := RR_JL) (by decide) rfl (Nat.le_of_ble_eq_true rfl) ?_
  intro p e s m below meth c A Q ls hx hb hml hr hlocks hown hts hK hA hT hN hP hD hS hl hQ
  have hl : lv_has ls 2 [(0, .long a0)] := hl
  rw [fn_JL_bitCount] at hf
  refine lv_lload_n hx hb dd_JL_bitCount_0 rfl (lv_at hl 0 rfl) ?_
  refine lv_lload_n hx hb dd_JL_bitCount_1 rfl (lv_at hl 0 rfl) ?_
  refine lv_iconst (v := 1) hx hb dd_JL_bitCount_2 (by decide) ?_
  refine lv_lushr (v := (a0.toUInt64 >>> ((1 : Int32).toInt64.toUInt64 &&& Int64.toUInt64 63)).toInt64) hx hb dd_JL_bitCount_3 rfl ?_
  refine lv_ldc2 (v := 6148914691236517205) hx hb hown (hts _ mm_27) dd_JL_bitCount_4 ?_
  refine lv_land hx hb dd_JL_bitCount_7 ?_
  refine lv_lsub hx hb dd_JL_bitCount_8 ?_
  refine lv_topl (fun v1 ev1 => ?_)
  replace hf := qq_lt ev1 hf
  refine lv_lstore_n (lv' := [(0, .long v1)]) hx hb dd_JL_bitCount_9 rfl hl (by decide) rfl (fun ls hl => ?_)
  refine lv_lload_n hx hb dd_JL_bitCount_10 rfl (lv_at hl 0 rfl) ?_
  refine lv_ldc2 (v := 3689348814741910323) hx hb hown (hts _ mm_28) dd_JL_bitCount_11 ?_
  refine lv_land hx hb dd_JL_bitCount_14 ?_
  refine lv_lload_n hx hb dd_JL_bitCount_15 rfl (lv_at hl 0 rfl) ?_
  refine lv_iconst (v := 2) hx hb dd_JL_bitCount_16 (by decide) ?_
  refine lv_lushr (v := (v1.toUInt64 >>> ((2 : Int32).toInt64.toUInt64 &&& Int64.toUInt64 63)).toInt64) hx hb dd_JL_bitCount_17 rfl ?_
  refine lv_ldc2 (v := 3689348814741910323) hx hb hown (hts _ mm_28) dd_JL_bitCount_18 ?_
  refine lv_land hx hb dd_JL_bitCount_21 ?_
  refine lv_ladd hx hb dd_JL_bitCount_22 ?_
  refine lv_topl (fun v2 ev2 => ?_)
  replace hf := qq_lt ev2 hf
  refine lv_lstore_n (lv' := [(0, .long v2)]) hx hb dd_JL_bitCount_23 rfl hl (by decide) rfl (fun ls hl => ?_)
  refine lv_lload_n hx hb dd_JL_bitCount_24 rfl (lv_at hl 0 rfl) ?_
  refine lv_lload_n hx hb dd_JL_bitCount_25 rfl (lv_at hl 0 rfl) ?_
  refine lv_iconst (v := 4) hx hb dd_JL_bitCount_26 (by decide) ?_
  refine lv_lushr (v := (v2.toUInt64 >>> ((4 : Int32).toInt64.toUInt64 &&& Int64.toUInt64 63)).toInt64) hx hb dd_JL_bitCount_27 rfl ?_
  refine lv_ladd hx hb dd_JL_bitCount_28 ?_
  refine lv_ldc2 (v := 1085102592571150095) hx hb hown (hts _ mm_29) dd_JL_bitCount_29 ?_
  refine lv_land hx hb dd_JL_bitCount_32 ?_
  refine lv_topl (fun v3 ev3 => ?_)
  replace hf := qq_lt ev3 hf
  refine lv_lstore_n (lv' := [(0, .long v3)]) hx hb dd_JL_bitCount_33 rfl hl (by decide) rfl (fun ls hl => ?_)
  refine lv_lload_n hx hb dd_JL_bitCount_34 rfl (lv_at hl 0 rfl) ?_
  refine lv_lload_n hx hb dd_JL_bitCount_35 rfl (lv_at hl 0 rfl) ?_
  refine lv_bipush (v := 8) hx hb dd_JL_bitCount_36 (by decide) ?_
  refine lv_lushr (v := (v3.toUInt64 >>> ((8 : Int32).toInt64.toUInt64 &&& Int64.toUInt64 63)).toInt64) hx hb dd_JL_bitCount_38 rfl ?_
  refine lv_ladd hx hb dd_JL_bitCount_39 ?_
  refine lv_topl (fun v4 ev4 => ?_)
  replace hf := qq_lt ev4 hf
  refine lv_lstore_n (lv' := [(0, .long v4)]) hx hb dd_JL_bitCount_40 rfl hl (by decide) rfl (fun ls hl => ?_)
  refine lv_lload_n hx hb dd_JL_bitCount_41 rfl (lv_at hl 0 rfl) ?_
  refine lv_lload_n hx hb dd_JL_bitCount_42 rfl (lv_at hl 0 rfl) ?_
  refine lv_bipush (v := 16) hx hb dd_JL_bitCount_43 (by decide) ?_
  refine lv_lushr (v := (v4.toUInt64 >>> ((16 : Int32).toInt64.toUInt64 &&& Int64.toUInt64 63)).toInt64) hx hb dd_JL_bitCount_45 rfl ?_
  refine lv_ladd hx hb dd_JL_bitCount_46 ?_
  refine lv_topl (fun v5 ev5 => ?_)
  replace hf := qq_lt ev5 hf
  refine lv_lstore_n (lv' := [(0, .long v5)]) hx hb dd_JL_bitCount_47 rfl hl (by decide) rfl (fun ls hl => ?_)
  refine lv_lload_n hx hb dd_JL_bitCount_48 rfl (lv_at hl 0 rfl) ?_
  refine lv_lload_n hx hb dd_JL_bitCount_49 rfl (lv_at hl 0 rfl) ?_
  refine lv_bipush (v := 32) hx hb dd_JL_bitCount_50 (by decide) ?_
  refine lv_lushr (v := (v5.toUInt64 >>> ((32 : Int32).toInt64.toUInt64 &&& Int64.toUInt64 63)).toInt64) hx hb dd_JL_bitCount_52 rfl ?_
  refine lv_ladd hx hb dd_JL_bitCount_53 ?_
  refine lv_topl (fun v6 ev6 => ?_)
  replace hf := qq_lt ev6 hf
  refine lv_lstore_n (lv' := [(0, .long v6)]) hx hb dd_JL_bitCount_54 rfl hl (by decide) rfl (fun ls hl => ?_)
  refine lv_lload_n hx hb dd_JL_bitCount_55 rfl (lv_at hl 0 rfl) ?_
  refine lv_l2i (v := v6.toInt32) hx hb dd_JL_bitCount_56 rfl ?_
  refine lv_bipush (v := 127) hx hb dd_JL_bitCount_57 (by decide) ?_
  refine lv_iand hx hb dd_JL_bitCount_59 ?_
  cases hf
  exact qq_iret hx hb hr hlocks hQ hP hD hK hS dd_JL_bitCount_60
theorem dd_P_lowestOf_0 : decode bb_P_lowestOf 0 = .ok (.lload_n 0, 1) := by decide +kernel
theorem dd_P_lowestOf_1 : decode bb_P_lowestOf 1 = .ok (.lload_n 0, 1) := by decide +kernel
theorem dd_P_lowestOf_2 : decode bb_P_lowestOf 2 = .ok (.lneg, 1) := by decide +kernel
theorem dd_P_lowestOf_3 : decode bb_P_lowestOf 3 = .ok (.land, 1) := by decide +kernel
theorem dd_P_lowestOf_4 : decode bb_P_lowestOf 4 = .ok (.lconst 1, 1) := by decide +kernel
theorem dd_P_lowestOf_5 : decode bb_P_lowestOf 5 = .ok (.lsub, 1) := by decide +kernel
theorem dd_P_lowestOf_6 : decode bb_P_lowestOf 6 = .ok (.invokestatic 95, 3) := by decide +kernel
theorem dd_P_lowestOf_9 : decode bb_P_lowestOf 9 = .ok (.bipush 64, 2) := by decide +kernel
theorem dd_P_lowestOf_11 : decode bb_P_lowestOf 11 = .ok (.irem, 1) := by decide +kernel
theorem dd_P_lowestOf_12 : decode bb_P_lowestOf 12 = .ok (.ireturn, 1) := by decide +kernel
abbrev ty_P_lowestOf : Type := Int32
noncomputable def fn_P_lowestOf (a0 : Int64) : Option ty_P_lowestOf := (fn_JL_bitCount ((a0 &&& (-a0)) - (1 : Int64))).bind fun r1 => some (r1 - r1 / 64 * 64)
abbrev rm_P_lowestOf : Room := { frames := 1, cells := 0, slots := 0, locals := 21 }
set_option maxHeartbeats 4000000 in
set_option maxRecDepth 100000 in
theorem ct_P_lowestOf (l : Launch) (dC : Nat → ClassId) (dI : Nat → Nat → Nat) (cI cL cR : ClassId) (a0 : Int64) {rr : Int32} (hf : fn_P_lowestOf a0 = some rr) : qq_det l yy_P_lowestOf (ww_of yy_P_lowestOf bb_P_lowestOf 2 (some .int)) rm_P_lowestOf (dC, dI) (qq_ty cI cL cR) [.long a0] [] (some (.int rr)) [] := by
  refine qq_of (own := RR_P) (by decide) rfl (Nat.le_of_ble_eq_true rfl) ?_
  intro p e s m below meth c A Q ls hx hb hml hr hlocks hown hts hK hA hT hN hP hD hS hl hQ
  have hl : lv_has ls 2 [(0, .long a0)] := hl
  rw [fn_P_lowestOf] at hf
  refine lv_lload_n hx hb dd_P_lowestOf_0 rfl (lv_at hl 0 rfl) ?_
  refine lv_lload_n hx hb dd_P_lowestOf_1 rfl (lv_at hl 0 rfl) ?_
  refine lv_lneg hx hb dd_P_lowestOf_2 ?_
  refine lv_land hx hb dd_P_lowestOf_3 ?_
  refine lv_lconst (v := 1) hx hb dd_P_lowestOf_4 (by decide) ?_
  refine lv_lsub hx hb dd_P_lowestOf_5 ?_
  obtain ⟨r1, hy1, hf⟩ := qq_bd hf
  refine qq_S (As := [.long ((a0 &&& (-a0)) - (1 : Int64))]) (rest := []) (wr := []) (wf := []) ⟨hx, hb, hml, hown, hts⟩ (ct_JL_bitCount l dC dI cI cL cR ((a0 &&& (-a0)) - (1 : Int64)) hy1) mm_32 mm_33 mm_30 mm_31 hd_JL_bitCount (by decide) qq_00 hP hD hK hS hA hT hN [] [] [] rfl rfl rfl (by decide) rfl hl.1 rfl (Nat.le_of_ble_eq_true rfl) dd_P_lowestOf_6 (fun H locs hP hD hS => ?_)
  refine W.eq (g2 := F0 m 9 ls [.int r1]) rfl ?_
  refine lv_bipush (v := 64) hx hb dd_P_lowestOf_9 (by decide) ?_
  refine lv_irem hx hb dd_P_lowestOf_11 (by decide) ?_
  cases hf
  exact qq_iret hx hb hr hlocks hQ hP hD hK hS dd_P_lowestOf_12
theorem dd_P_addMoves_0 : decode bb_P_addMoves 0 = .ok (.lload_n 2, 1) := by decide +kernel
theorem dd_P_addMoves_1 : decode bb_P_addMoves 1 = .ok (.lstore 5, 2) := by decide +kernel
theorem dd_P_addMoves_3 : decode bb_P_addMoves 3 = .ok (.lload_n 2, 1) := by decide +kernel
theorem dd_P_addMoves_4 : decode bb_P_addMoves 4 = .ok (.invokestatic 95, 3) := by decide +kernel
theorem dd_P_addMoves_7 : decode bb_P_addMoves 7 = .ok (.istore 7, 2) := by decide +kernel
theorem dd_P_addMoves_9 : decode bb_P_addMoves 9 = .ok (.iload 7, 2) := by decide +kernel
theorem dd_P_addMoves_11 : decode bb_P_addMoves 11 = .ok (.ifCond .le 33, 3) := by decide +kernel
theorem dd_P_addMoves_14 : decode bb_P_addMoves 14 = .ok (.aload 4, 2) := by decide +kernel
theorem dd_P_addMoves_16 : decode bb_P_addMoves 16 = .ok (.iload_n 1, 1) := by decide +kernel
theorem dd_P_addMoves_17 : decode bb_P_addMoves 17 = .ok (.lload 5, 2) := by decide +kernel
theorem dd_P_addMoves_19 : decode bb_P_addMoves 19 = .ok (.invokestatic 101, 3) := by decide +kernel
theorem dd_P_addMoves_22 : decode bb_P_addMoves 22 = .ok (.iconst 0, 1) := by decide +kernel
theorem dd_P_addMoves_23 : decode bb_P_addMoves 23 = .ok (.invokestatic 104, 3) := by decide +kernel
theorem dd_P_addMoves_26 : decode bb_P_addMoves 26 = .ok (.invokevirtual 108, 3) := by decide +kernel
theorem dd_P_addMoves_29 : decode bb_P_addMoves 29 = .ok (.lload 5, 2) := by decide +kernel
theorem dd_P_addMoves_31 : decode bb_P_addMoves 31 = .ok (.lload 5, 2) := by decide +kernel
theorem dd_P_addMoves_33 : decode bb_P_addMoves 33 = .ok (.lconst 1, 1) := by decide +kernel
theorem dd_P_addMoves_34 : decode bb_P_addMoves 34 = .ok (.lsub, 1) := by decide +kernel
theorem dd_P_addMoves_35 : decode bb_P_addMoves 35 = .ok (.land, 1) := by decide +kernel
theorem dd_P_addMoves_36 : decode bb_P_addMoves 36 = .ok (.lstore 5, 2) := by decide +kernel
theorem dd_P_addMoves_38 : decode bb_P_addMoves 38 = .ok (.iinc 7 (-1), 3) := by decide +kernel
theorem dd_P_addMoves_41 : decode bb_P_addMoves 41 = .ok (.goto (-32), 3) := by decide +kernel
theorem dd_P_addMoves_44 : decode bb_P_addMoves 44 = .ok (.return_, 1) := by decide +kernel
abbrev ty_P_addMoves : Type := Int32 × (Nat → Int32)
noncomputable def lo_P_addMoves_9 (a1 : Int32) (a2 : Int64) : Nat → Int32 → (Nat → Int32) → Int64 → Int32 → Option ty_P_addMoves
  | 0, _, _, _, _ => none
  | n + 1, rn, rc, x5, x7 => if x7 ≤ 0 then (some (rn, rc)) else ((fn_P_lowestOf x5).bind fun r1001 => (fn_B_codeOf a1 r1001 0).bind fun r1002 => (fn_W_add rn rc r1002).bind fun (rn_1003, rc_1004) => qq_let (x5 &&& (x5 - (1 : Int64))) fun v1005 => qq_let (x7 + (-1)) fun v1006 => (lo_P_addMoves_9 a1 a2 n) rn_1003 rc_1004 v1005 v1006)
theorem lo_P_addMoves_9_z (a1 : Int32) (a2 : Int64) (rn : Int32) (rc : Nat → Int32) (x5 : Int64) (x7 : Int32) : lo_P_addMoves_9 a1 a2 0 rn rc x5 x7 = none := rfl
theorem lo_P_addMoves_9_s (a1 : Int32) (a2 : Int64) (rn : Int32) (rc : Nat → Int32) (x5 : Int64) (x7 : Int32) (n : Nat) : lo_P_addMoves_9 a1 a2 (n + 1) rn rc x5 x7 = (if x7 ≤ 0 then (some (rn, rc)) else ((fn_P_lowestOf x5).bind fun r1001 => (fn_B_codeOf a1 r1001 0).bind fun r1002 => (fn_W_add rn rc r1002).bind fun (rn_1003, rc_1004) => qq_let (x5 &&& (x5 - (1 : Int64))) fun v1005 => qq_let (x7 + (-1)) fun v1006 => (lo_P_addMoves_9 a1 a2 n) rn_1003 rc_1004 v1005 v1006)) := rfl
noncomputable def fn_P_addMoves (rn : Int32) (rc : Nat → Int32) (a1 : Int32) (a2 : Int64) : Option ty_P_addMoves := (fn_JL_bitCount a2).bind fun r1 => lo_P_addMoves_9 a1 a2 qq_FU rn rc a2 r1
abbrev rm_P_addMoves : Room := { frames := 2, cells := 0, slots := 0, locals := 42 }
set_option maxHeartbeats 4000000 in
set_option maxRecDepth 100000 in
theorem ct_P_addMoves (l : Launch) (dC : Nat → ClassId) (dI : Nat → Nat → Nat) (cI cL cR : ClassId) (oP osq okg oW orc : Nat) (sd : Int32) (rt : Int32) (ps : Int32) (sq : Nat → Int32) (kg : Nat → Int32) (rn : Int32) (rc : Nat → Int32) (a1 : Int32) (a2 : Int64) {rn' : Int32} {rc' : Nat → Int32} (hf : fn_P_addMoves rn rc a1 a2 = some (rn', rc')) : qq_det l yy_P_addMoves (ww_of yy_P_addMoves bb_P_addMoves 8 none) rm_P_addMoves (dC, dI) (qq_ty cI cL cR) [.ref oP, .int a1, .long a2, .ref oW] [(oP, .inr (1, [.ref osq, .ref okg, .int sd, .int rt, .int ps])), (osq, .inl (cI, 64, .inl sq)), (okg, .inl (cI, 2, .inl kg)), (oW, .inr (2, [.ref orc, .int rn])), (orc, .inl (cI, 415, .inl rc))] none [(oP, .inr (1, [.ref osq, .ref okg, .int sd, .int rt, .int ps])), (osq, .inl (cI, 64, .inl sq)), (okg, .inl (cI, 2, .inl kg)), (oW, .inr (2, [.ref orc, .int rn'])), (orc, .inl (cI, 415, .inl rc'))] := by
  refine qq_of (own := RR_P) (by decide) rfl (Nat.le_of_ble_eq_true rfl) ?_
  intro p e s m below meth c A Q ls hx hb hml hr hlocks hown hts hK hA hT hN hP hD hS hl hQ
  have hl : lv_has ls 8 [(0, .ref oP), (1, .int a1), (2, .long a2), (4, .ref oW)] := hl
  have hL9 : ∀ (n9 : Nat) (rn : Int32) (rc : Nat → Int32) (x5 : Int64) (x7 : Int32) (H : Heap) (locs : List Loc) (ls : Array Slot), lv_has ls 8 [(1, .int a1), (4, .ref oW), (5, .long x5), (7, .int x7)] → va_P (dC, dI) classes [(oP, .inr (1, [.ref osq, .ref okg, .int sd, .int rt, .int ps])), (osq, .inl (cI, 64, .inl sq)), (okg, .inl (cI, 2, .inl kg)), (oW, .inr (2, [.ref orc, .int rn])), (orc, .inl (cI, 415, .inl rc))] H → va_D A [(oP, .inr (1, [.ref osq, .ref okg, .int sd, .int rt, .int ps])), (osq, .inl (cI, 64, .inl sq)), (okg, .inl (cI, 2, .inl kg)), (oW, .inr (2, [.ref orc, .int rn])), (orc, .inl (cI, 415, .inl rc))] → va_S A s.heap H locs → lo_P_addMoves_9 a1 a2 n9 rn rc x5 x7 = some (rn', rc') → W p l e rm_P_addMoves s m ([.ref oP, .int a1, .long a2, .ref oW] : List Value).toArray below meth c H locs 0 0 Q (F0 m 9 ls []) := by
    intro n9
    induction n9 with
    | zero => exact fun rn rc x5 x7 H locs ls hl hP hD hS hf => absurd hf (by rw [lo_P_addMoves_9_z]; exact fun h => by cases h)
    | succ n9 ih9 =>
      intro rn rc x5 x7 H locs ls hl hP hD hS hf
      rw [lo_P_addMoves_9_s] at hf
      refine lv_iload hx hb dd_P_addMoves_9 (lv_at hl 3 rfl) ?_
      refine lv_if_le (tgt := 44) hx hb dd_P_addMoves_11 (by decide) (fun hc => ?_) (fun hc => ?_)
      · replace hf := qq_t hc hf
        cases hf
        exact qq_vret hx hb hr hlocks hQ hP hD hK hS dd_P_addMoves_44
      · replace hf := qq_f hc hf
        refine lv_aload hx hb dd_P_addMoves_14 (lv_at hl 1 rfl) ?_
        refine lv_iload_n hx hb dd_P_addMoves_16 rfl (lv_at hl 0 rfl) ?_
        refine lv_lload hx hb dd_P_addMoves_17 (lv_at hl 2 rfl) ?_
        obtain ⟨r1001, hy1001, hf⟩ := qq_bd hf
        refine qq_S (As := [.long x5]) (rest := [.int a1, .ref oW]) (wr := [(oP, .inr (1, [.ref osq, .ref okg, .int sd, .int rt, .int ps])), (osq, .inl (cI, 64, .inl sq)), (okg, .inl (cI, 2, .inl kg)), (oW, .inr (2, [.ref orc, .int rn])), (orc, .inl (cI, 415, .inl rc))]) (wf := [(oP, .inr (1, [.ref osq, .ref okg, .int sd, .int rt, .int ps])), (osq, .inl (cI, 64, .inl sq)), (okg, .inl (cI, 2, .inl kg)), (oW, .inr (2, [.ref orc, .int rn])), (orc, .inl (cI, 415, .inl rc))]) ⟨hx, hb, hml, hown, hts⟩ (ct_P_lowestOf l dC dI cI cL cR x5 hy1001) mm_37 mm_38 mm_36 mm_15 hd_P_lowestOf (by decide) qq_00 hP hD hK hS hA hT hN [] [0, 1, 2, 3, 4] [0, 1, 2, 3, 4] rfl rfl rfl (by decide) rfl hl.1 rfl (Nat.le_of_ble_eq_true rfl) dd_P_addMoves_19 (fun H locs hP hD hS => ?_)
        refine W.eq (g2 := F0 m 22 ls [.int r1001, .int a1, .ref oW]) rfl ?_
        refine lv_iconst (v := 0) hx hb dd_P_addMoves_22 (by decide) ?_
        obtain ⟨r1002, hy1002, hf⟩ := qq_bd hf
        refine qq_SN (As := [.int a1, .int r1001, .int 0]) (rest := [.ref oW]) (wr := [(oP, .inr (1, [.ref osq, .ref okg, .int sd, .int rt, .int ps])), (osq, .inl (cI, 64, .inl sq)), (okg, .inl (cI, 2, .inl kg)), (oW, .inr (2, [.ref orc, .int rn])), (orc, .inl (cI, 415, .inl rc))]) (wf := [(oP, .inr (1, [.ref osq, .ref okg, .int sd, .int rt, .int ps])), (osq, .inl (cI, 64, .inl sq)), (okg, .inl (cI, 2, .inl kg)), (oW, .inr (2, [.ref orc, .int rn])), (orc, .inl (cI, 415, .inl rc))]) ⟨hx, hb, hml, hown, hts⟩ (ct_B_codeOf l dC dI cI cL cR a1 r1001 0 hy1002) (hN.1 _ nm_0) mm_40 mm_39 mm_1 hd_B_codeOf (by decide) qq_00 hP hD hK hS hA hT hN [] [0, 1, 2, 3, 4] [0, 1, 2, 3, 4] rfl rfl rfl (by decide) rfl hl.1 rfl (Nat.le_of_ble_eq_true rfl) dd_P_addMoves_23 (fun H locs hP hD hS => ?_)
        refine W.eq (g2 := F0 m 26 ls [.int r1002, .ref oW]) rfl ?_
        obtain ⟨⟨rn_1003, rc_1004⟩, hy1004, hf⟩ := qq_bd hf
        dsimp only at hf
        refine qq_V (As := [.int r1002]) (rest := []) (wr := [(oP, .inr (1, [.ref osq, .ref okg, .int sd, .int rt, .int ps])), (osq, .inl (cI, 64, .inl sq)), (okg, .inl (cI, 2, .inl kg))]) (wf := [(oP, .inr (1, [.ref osq, .ref okg, .int sd, .int rt, .int ps])), (osq, .inl (cI, 64, .inl sq)), (okg, .inl (cI, 2, .inl kg)), (oW, .inr (2, [.ref orc, .int rn_1003])), (orc, .inl (cI, 415, .inl rc_1004))]) ⟨hx, hb, hml, hown, hts⟩ (ct_W_add l dC dI cI cL cR oW orc rn rc r1002 hy1004) mm_43 mm_44 mm_45 mm_41 mm_42 hd_W_add (by decide) qq_00 hP hD hK hS hA hT hN (q0 := 3) (ci := 2) rfl rfl [3, 4] [0, 1, 2] [0, 1, 2, 3, 4] rfl rfl rfl (by decide) rfl hl.1 rfl (Nat.le_of_ble_eq_true rfl) dd_P_addMoves_26 (fun H locs hP hD hS => ?_)
        refine W.eq (g2 := F0 m 29 ls []) rfl ?_
        refine lv_lload hx hb dd_P_addMoves_29 (lv_at hl 2 rfl) ?_
        refine lv_lload hx hb dd_P_addMoves_31 (lv_at hl 2 rfl) ?_
        refine lv_lconst (v := 1) hx hb dd_P_addMoves_33 (by decide) ?_
        refine lv_lsub hx hb dd_P_addMoves_34 ?_
        refine lv_land hx hb dd_P_addMoves_35 ?_
        refine lv_topl (fun v1005 ev1005 => ?_)
        replace hf := qq_lt ev1005 hf
        refine lv_lstore (lv' := [(5, .long v1005), (1, .int a1), (4, .ref oW), (7, .int x7)]) hx hb dd_P_addMoves_36 hl (by decide) rfl (fun ls hl => ?_)
        obtain ⟨v1006, ev1006⟩ : ∃ z, z = x7 + (-1) := ⟨_, rfl⟩
        replace hf := qq_lt ev1006 hf
        refine lv_iinc (k := 3) (v := v1006) (lv' := [(7, .int v1006), (5, .long v1005), (1, .int a1), (4, .ref oW)]) hx hb dd_P_addMoves_38 hl rfl (by rw [ev1006]; exact congrArg _ (by decide)) (by decide) rfl (fun ls hl => ?_)
        refine lv_goto (tgt := 9) hx hb dd_P_addMoves_41 (by decide) ?_
        exact ih9 rn_1003 rc_1004 v1005 v1006 _ _ _ (lv_sub hl [2, 3, 1, 0] rfl) hP hD hS hf
  rw [fn_P_addMoves] at hf
  refine lv_lload_n hx hb dd_P_addMoves_0 rfl (lv_at hl 2 rfl) ?_
  refine lv_lstore (lv' := [(5, .long a2), (0, .ref oP), (1, .int a1), (2, .long a2), (4, .ref oW)]) hx hb dd_P_addMoves_1 hl (by decide) rfl (fun ls hl => ?_)
  refine lv_lload_n hx hb dd_P_addMoves_3 rfl (lv_at hl 3 rfl) ?_
  obtain ⟨r1, hy1, hf⟩ := qq_bd hf
  refine qq_S (As := [.long a2]) (rest := []) (wr := [(oP, .inr (1, [.ref osq, .ref okg, .int sd, .int rt, .int ps])), (osq, .inl (cI, 64, .inl sq)), (okg, .inl (cI, 2, .inl kg)), (oW, .inr (2, [.ref orc, .int rn])), (orc, .inl (cI, 415, .inl rc))]) (wf := [(oP, .inr (1, [.ref osq, .ref okg, .int sd, .int rt, .int ps])), (osq, .inl (cI, 64, .inl sq)), (okg, .inl (cI, 2, .inl kg)), (oW, .inr (2, [.ref orc, .int rn])), (orc, .inl (cI, 415, .inl rc))]) ⟨hx, hb, hml, hown, hts⟩ (ct_JL_bitCount l dC dI cI cL cR a2 hy1) mm_32 mm_33 mm_30 mm_31 hd_JL_bitCount (by decide) qq_00 hP hD hK hS hA hT hN [] [0, 1, 2, 3, 4] [0, 1, 2, 3, 4] rfl rfl rfl (by decide) rfl hl.1 rfl (Nat.le_of_ble_eq_true rfl) dd_P_addMoves_4 (fun H locs hP hD hS => ?_)
  refine W.eq (g2 := F0 m 7 ls [.int r1]) rfl ?_
  refine lv_istore (lv' := [(7, .int r1), (5, .long a2), (0, .ref oP), (1, .int a1), (2, .long a2), (4, .ref oW)]) hx hb dd_P_addMoves_7 hl (by decide) rfl (fun ls hl => ?_)
  exact hL9 qq_FU rn rc a2 r1 _ _ _ (lv_sub hl [3, 5, 1, 0] rfl) hP hD hS hf
theorem dd_P_addPawnMoves_0 : decode bb_P_addPawnMoves 0 = .ok (.aload_n 0, 1) := by decide +kernel
theorem dd_P_addPawnMoves_1 : decode bb_P_addPawnMoves 1 = .ok (.iload_n 1, 1) := by decide +kernel
theorem dd_P_addPawnMoves_2 : decode bb_P_addPawnMoves 2 = .ok (.invokevirtual 112, 3) := by decide +kernel
theorem dd_P_addPawnMoves_5 : decode bb_P_addPawnMoves 5 = .ok (.lstore_n 3, 1) := by decide +kernel
theorem dd_P_addPawnMoves_6 : decode bb_P_addPawnMoves 6 = .ok (.iload_n 1, 1) := by decide +kernel
theorem dd_P_addPawnMoves_7 : decode bb_P_addPawnMoves 7 = .ok (.bipush 8, 2) := by decide +kernel
theorem dd_P_addPawnMoves_9 : decode bb_P_addPawnMoves 9 = .ok (.idiv, 1) := by decide +kernel
theorem dd_P_addPawnMoves_10 : decode bb_P_addPawnMoves 10 = .ok (.aload_n 0, 1) := by decide +kernel
theorem dd_P_addPawnMoves_11 : decode bb_P_addPawnMoves 11 = .ok (.getfield 68, 3) := by decide +kernel
theorem dd_P_addPawnMoves_14 : decode bb_P_addPawnMoves 14 = .ok (.ifCond .ne 8, 3) := by decide +kernel
theorem dd_P_addPawnMoves_17 : decode bb_P_addPawnMoves 17 = .ok (.bipush 6, 2) := by decide +kernel
theorem dd_P_addPawnMoves_19 : decode bb_P_addPawnMoves 19 = .ok (.goto 4, 3) := by decide +kernel
theorem dd_P_addPawnMoves_22 : decode bb_P_addPawnMoves 22 = .ok (.iconst 1, 1) := by decide +kernel
theorem dd_P_addPawnMoves_23 : decode bb_P_addPawnMoves 23 = .ok (.if_icmp .ne 7, 3) := by decide +kernel
theorem dd_P_addPawnMoves_26 : decode bb_P_addPawnMoves 26 = .ok (.iconst 1, 1) := by decide +kernel
theorem dd_P_addPawnMoves_27 : decode bb_P_addPawnMoves 27 = .ok (.goto 4, 3) := by decide +kernel
theorem dd_P_addPawnMoves_30 : decode bb_P_addPawnMoves 30 = .ok (.iconst 0, 1) := by decide +kernel
theorem dd_P_addPawnMoves_31 : decode bb_P_addPawnMoves 31 = .ok (.istore 5, 2) := by decide +kernel
theorem dd_P_addPawnMoves_33 : decode bb_P_addPawnMoves 33 = .ok (.iload 5, 2) := by decide +kernel
theorem dd_P_addPawnMoves_35 : decode bb_P_addPawnMoves 35 = .ok (.ifCond .ne 11, 3) := by decide +kernel
theorem dd_P_addPawnMoves_38 : decode bb_P_addPawnMoves 38 = .ok (.aload_n 0, 1) := by decide +kernel
theorem dd_P_addPawnMoves_39 : decode bb_P_addPawnMoves 39 = .ok (.iload_n 1, 1) := by decide +kernel
theorem dd_P_addPawnMoves_40 : decode bb_P_addPawnMoves 40 = .ok (.lload_n 3, 1) := by decide +kernel
theorem dd_P_addPawnMoves_41 : decode bb_P_addPawnMoves 41 = .ok (.aload_n 2, 1) := by decide +kernel
theorem dd_P_addPawnMoves_42 : decode bb_P_addPawnMoves 42 = .ok (.invokevirtual 83, 3) := by decide +kernel
theorem dd_P_addPawnMoves_45 : decode bb_P_addPawnMoves 45 = .ok (.return_, 1) := by decide +kernel
theorem dd_P_addPawnMoves_46 : decode bb_P_addPawnMoves 46 = .ok (.lload_n 3, 1) := by decide +kernel
theorem dd_P_addPawnMoves_47 : decode bb_P_addPawnMoves 47 = .ok (.lstore 6, 2) := by decide +kernel
theorem dd_P_addPawnMoves_49 : decode bb_P_addPawnMoves 49 = .ok (.lload_n 3, 1) := by decide +kernel
theorem dd_P_addPawnMoves_50 : decode bb_P_addPawnMoves 50 = .ok (.invokestatic 95, 3) := by decide +kernel
theorem dd_P_addPawnMoves_53 : decode bb_P_addPawnMoves 53 = .ok (.istore 8, 2) := by decide +kernel
theorem dd_P_addPawnMoves_55 : decode bb_P_addPawnMoves 55 = .ok (.iload 8, 2) := by decide +kernel
theorem dd_P_addPawnMoves_57 : decode bb_P_addPawnMoves 57 = .ok (.ifCond .le 48, 3) := by decide +kernel
theorem dd_P_addPawnMoves_60 : decode bb_P_addPawnMoves 60 = .ok (.iconst 2, 1) := by decide +kernel
theorem dd_P_addPawnMoves_61 : decode bb_P_addPawnMoves 61 = .ok (.istore 9, 2) := by decide +kernel
theorem dd_P_addPawnMoves_63 : decode bb_P_addPawnMoves 63 = .ok (.iload 9, 2) := by decide +kernel
theorem dd_P_addPawnMoves_65 : decode bb_P_addPawnMoves 65 = .ok (.iconst 5, 1) := by decide +kernel
theorem dd_P_addPawnMoves_66 : decode bb_P_addPawnMoves 66 = .ok (.if_icmp .gt 24, 3) := by decide +kernel
theorem dd_P_addPawnMoves_69 : decode bb_P_addPawnMoves 69 = .ok (.aload_n 2, 1) := by decide +kernel
theorem dd_P_addPawnMoves_70 : decode bb_P_addPawnMoves 70 = .ok (.iload_n 1, 1) := by decide +kernel
theorem dd_P_addPawnMoves_71 : decode bb_P_addPawnMoves 71 = .ok (.lload 6, 2) := by decide +kernel
theorem dd_P_addPawnMoves_73 : decode bb_P_addPawnMoves 73 = .ok (.invokestatic 101, 3) := by decide +kernel
theorem dd_P_addPawnMoves_76 : decode bb_P_addPawnMoves 76 = .ok (.iload 9, 2) := by decide +kernel
theorem dd_P_addPawnMoves_78 : decode bb_P_addPawnMoves 78 = .ok (.invokestatic 104, 3) := by decide +kernel
theorem dd_P_addPawnMoves_81 : decode bb_P_addPawnMoves 81 = .ok (.invokevirtual 108, 3) := by decide +kernel
theorem dd_P_addPawnMoves_84 : decode bb_P_addPawnMoves 84 = .ok (.iinc 9 1, 3) := by decide +kernel
theorem dd_P_addPawnMoves_87 : decode bb_P_addPawnMoves 87 = .ok (.goto (-24), 3) := by decide +kernel
theorem dd_P_addPawnMoves_90 : decode bb_P_addPawnMoves 90 = .ok (.lload 6, 2) := by decide +kernel
theorem dd_P_addPawnMoves_92 : decode bb_P_addPawnMoves 92 = .ok (.lload 6, 2) := by decide +kernel
theorem dd_P_addPawnMoves_94 : decode bb_P_addPawnMoves 94 = .ok (.lconst 1, 1) := by decide +kernel
theorem dd_P_addPawnMoves_95 : decode bb_P_addPawnMoves 95 = .ok (.lsub, 1) := by decide +kernel
theorem dd_P_addPawnMoves_96 : decode bb_P_addPawnMoves 96 = .ok (.land, 1) := by decide +kernel
theorem dd_P_addPawnMoves_97 : decode bb_P_addPawnMoves 97 = .ok (.lstore 6, 2) := by decide +kernel
theorem dd_P_addPawnMoves_99 : decode bb_P_addPawnMoves 99 = .ok (.iinc 8 (-1), 3) := by decide +kernel
theorem dd_P_addPawnMoves_102 : decode bb_P_addPawnMoves 102 = .ok (.goto (-47), 3) := by decide +kernel
theorem dd_P_addPawnMoves_105 : decode bb_P_addPawnMoves 105 = .ok (.return_, 1) := by decide +kernel
abbrev ty_P_addPawnMoves : Type := Int32 × (Nat → Int32)
noncomputable def lo_P_addPawnMoves_63 (sd : Int32) (ps : Int32) (sq : Nat → Int32) (a1 : Int32) (k55 : Int32 → (Nat → Int32) → Int64 → Int32 → Option ty_P_addPawnMoves) : Nat → Int32 → (Nat → Int32) → Int64 → Int32 → Int32 → Option ty_P_addPawnMoves
  | 0, _, _, _, _, _ => none
  | n + 1, rn, rc, x6, x8, x9 => if 5 < x9 then (qq_let (x6 &&& (x6 - (1 : Int64))) fun v1001 => qq_let (x8 + (-1)) fun v1002 => k55 rn rc v1001 v1002) else ((fn_P_lowestOf x6).bind fun r1003 => (fn_B_codeOf a1 r1003 x9).bind fun r1004 => (fn_W_add rn rc r1004).bind fun (rn_1005, rc_1006) => qq_let (x9 + 1) fun v1007 => (lo_P_addPawnMoves_63 sd ps sq a1 k55 n) rn_1005 rc_1006 x6 x8 v1007)
theorem lo_P_addPawnMoves_63_z (sd : Int32) (ps : Int32) (sq : Nat → Int32) (a1 : Int32) (k55 : Int32 → (Nat → Int32) → Int64 → Int32 → Option ty_P_addPawnMoves) (rn : Int32) (rc : Nat → Int32) (x6 : Int64) (x8 : Int32) (x9 : Int32) : lo_P_addPawnMoves_63 sd ps sq a1 k55 0 rn rc x6 x8 x9 = none := rfl
theorem lo_P_addPawnMoves_63_s (sd : Int32) (ps : Int32) (sq : Nat → Int32) (a1 : Int32) (k55 : Int32 → (Nat → Int32) → Int64 → Int32 → Option ty_P_addPawnMoves) (rn : Int32) (rc : Nat → Int32) (x6 : Int64) (x8 : Int32) (x9 : Int32) (n : Nat) : lo_P_addPawnMoves_63 sd ps sq a1 k55 (n + 1) rn rc x6 x8 x9 = (if 5 < x9 then (qq_let (x6 &&& (x6 - (1 : Int64))) fun v1001 => qq_let (x8 + (-1)) fun v1002 => k55 rn rc v1001 v1002) else ((fn_P_lowestOf x6).bind fun r1003 => (fn_B_codeOf a1 r1003 x9).bind fun r1004 => (fn_W_add rn rc r1004).bind fun (rn_1005, rc_1006) => qq_let (x9 + 1) fun v1007 => (lo_P_addPawnMoves_63 sd ps sq a1 k55 n) rn_1005 rc_1006 x6 x8 v1007)) := rfl
noncomputable def lo_P_addPawnMoves_55 (sd : Int32) (ps : Int32) (sq : Nat → Int32) (a1 : Int32) : Nat → Int32 → (Nat → Int32) → Int64 → Int32 → Option ty_P_addPawnMoves
  | 0, _, _, _, _ => none
  | n + 1, rn, rc, x6, x8 => if x8 ≤ 0 then (some (rn, rc)) else (lo_P_addPawnMoves_63 sd ps sq a1 (lo_P_addPawnMoves_55 sd ps sq a1 n) qq_FU rn rc x6 x8 2)
theorem lo_P_addPawnMoves_55_z (sd : Int32) (ps : Int32) (sq : Nat → Int32) (a1 : Int32) (rn : Int32) (rc : Nat → Int32) (x6 : Int64) (x8 : Int32) : lo_P_addPawnMoves_55 sd ps sq a1 0 rn rc x6 x8 = none := rfl
theorem lo_P_addPawnMoves_55_s (sd : Int32) (ps : Int32) (sq : Nat → Int32) (a1 : Int32) (rn : Int32) (rc : Nat → Int32) (x6 : Int64) (x8 : Int32) (n : Nat) : lo_P_addPawnMoves_55 sd ps sq a1 (n + 1) rn rc x6 x8 = (if x8 ≤ 0 then (some (rn, rc)) else (lo_P_addPawnMoves_63 sd ps sq a1 (lo_P_addPawnMoves_55 sd ps sq a1 n) qq_FU rn rc x6 x8 2)) := rfl
noncomputable def bk_P_addPawnMoves_31 (sd : Int32) (ps : Int32) (sq : Nat → Int32) (a1 : Int32) (rn : Int32) (rc : Nat → Int32) (x3 : Int64) (s0 : Int32) : Option ty_P_addPawnMoves := if s0 = 0 then ((fn_P_addMoves rn rc a1 x3).bind fun (rn_3002, rc_3003) => some (rn_3002, rc_3003)) else ((fn_JL_bitCount x3).bind fun r3001 => lo_P_addPawnMoves_55 sd ps sq a1 qq_FU rn rc x3 r3001)
noncomputable def bk_P_addPawnMoves_23 (sd : Int32) (ps : Int32) (sq : Nat → Int32) (a1 : Int32) (rn : Int32) (rc : Nat → Int32) (x3 : Int64) (s0 : Int32) (s1 : Int32) : Option ty_P_addPawnMoves := if s0 = s1 then (bk_P_addPawnMoves_31 sd ps sq a1 rn rc x3 1) else (bk_P_addPawnMoves_31 sd ps sq a1 rn rc x3 0)
noncomputable def fn_P_addPawnMoves (sd : Int32) (ps : Int32) (sq : Nat → Int32) (rn : Int32) (rc : Nat → Int32) (a1 : Int32) : Option ty_P_addPawnMoves := (fn_P_targetsOfPawn sd ps sq a1).bind fun r1 => if sd = 0 then (bk_P_addPawnMoves_23 sd ps sq a1 rn rc r1 (a1 / 8) 6) else (bk_P_addPawnMoves_23 sd ps sq a1 rn rc r1 (a1 / 8) 1)
abbrev rm_P_addPawnMoves : Room := { frames := 3, cells := 0, slots := 0, locals := 69 }
set_option maxHeartbeats 4000000 in
set_option maxRecDepth 100000 in
theorem ct_P_addPawnMoves (l : Launch) (dC : Nat → ClassId) (dI : Nat → Nat → Nat) (cI cL cR : ClassId) (oP osq okg oW orc : Nat) (sd : Int32) (rt : Int32) (ps : Int32) (sq : Nat → Int32) (kg : Nat → Int32) (rn : Int32) (rc : Nat → Int32) (a1 : Int32) {rn' : Int32} {rc' : Nat → Int32} (hf : fn_P_addPawnMoves sd ps sq rn rc a1 = some (rn', rc')) : qq_det l yy_P_addPawnMoves (ww_of yy_P_addPawnMoves bb_P_addPawnMoves 10 none) rm_P_addPawnMoves (dC, dI) (qq_ty cI cL cR) [.ref oP, .int a1, .ref oW] [(oP, .inr (1, [.ref osq, .ref okg, .int sd, .int rt, .int ps])), (osq, .inl (cI, 64, .inl sq)), (okg, .inl (cI, 2, .inl kg)), (oW, .inr (2, [.ref orc, .int rn])), (orc, .inl (cI, 415, .inl rc))] none [(oP, .inr (1, [.ref osq, .ref okg, .int sd, .int rt, .int ps])), (osq, .inl (cI, 64, .inl sq)), (okg, .inl (cI, 2, .inl kg)), (oW, .inr (2, [.ref orc, .int rn'])), (orc, .inl (cI, 415, .inl rc'))] := by
  refine qq_of (own := RR_P) (by decide) rfl (Nat.le_of_ble_eq_true rfl) ?_
  intro p e s m below meth c A Q ls hx hb hml hr hlocks hown hts hK hA hT hN hP hD hS hl hQ
  have hl : lv_has ls 10 [(0, .ref oP), (1, .int a1), (2, .ref oW)] := hl
  have hL55 : ∀ (n55 : Nat) (rn : Int32) (rc : Nat → Int32) (x6 : Int64) (x8 : Int32) (H : Heap) (locs : List Loc) (ls : Array Slot), lv_has ls 10 [(1, .int a1), (2, .ref oW), (6, .long x6), (8, .int x8)] → va_P (dC, dI) classes [(oP, .inr (1, [.ref osq, .ref okg, .int sd, .int rt, .int ps])), (osq, .inl (cI, 64, .inl sq)), (okg, .inl (cI, 2, .inl kg)), (oW, .inr (2, [.ref orc, .int rn])), (orc, .inl (cI, 415, .inl rc))] H → va_D A [(oP, .inr (1, [.ref osq, .ref okg, .int sd, .int rt, .int ps])), (osq, .inl (cI, 64, .inl sq)), (okg, .inl (cI, 2, .inl kg)), (oW, .inr (2, [.ref orc, .int rn])), (orc, .inl (cI, 415, .inl rc))] → va_S A s.heap H locs → lo_P_addPawnMoves_55 sd ps sq a1 n55 rn rc x6 x8 = some (rn', rc') → W p l e rm_P_addPawnMoves s m ([.ref oP, .int a1, .ref oW] : List Value).toArray below meth c H locs 0 0 Q (F0 m 55 ls []) := by
    intro n55
    induction n55 with
    | zero => exact fun rn rc x6 x8 H locs ls hl hP hD hS hf => absurd hf (by rw [lo_P_addPawnMoves_55_z]; exact fun h => by cases h)
    | succ n55 ih55 =>
      have hL63 : ∀ (n63 : Nat) (rn : Int32) (rc : Nat → Int32) (x6 : Int64) (x8 : Int32) (x9 : Int32) (H : Heap) (locs : List Loc) (ls : Array Slot), lv_has ls 10 [(1, .int a1), (2, .ref oW), (6, .long x6), (8, .int x8), (9, .int x9)] → va_P (dC, dI) classes [(oP, .inr (1, [.ref osq, .ref okg, .int sd, .int rt, .int ps])), (osq, .inl (cI, 64, .inl sq)), (okg, .inl (cI, 2, .inl kg)), (oW, .inr (2, [.ref orc, .int rn])), (orc, .inl (cI, 415, .inl rc))] H → va_D A [(oP, .inr (1, [.ref osq, .ref okg, .int sd, .int rt, .int ps])), (osq, .inl (cI, 64, .inl sq)), (okg, .inl (cI, 2, .inl kg)), (oW, .inr (2, [.ref orc, .int rn])), (orc, .inl (cI, 415, .inl rc))] → va_S A s.heap H locs → lo_P_addPawnMoves_63 sd ps sq a1 (lo_P_addPawnMoves_55 sd ps sq a1 n55) n63 rn rc x6 x8 x9 = some (rn', rc') → W p l e rm_P_addPawnMoves s m ([.ref oP, .int a1, .ref oW] : List Value).toArray below meth c H locs 0 0 Q (F0 m 63 ls []) := by
        intro n63
        induction n63 with
        | zero => exact fun rn rc x6 x8 x9 H locs ls hl hP hD hS hf => absurd hf (by rw [lo_P_addPawnMoves_63_z]; exact fun h => by cases h)
        | succ n63 ih63 =>
          intro rn rc x6 x8 x9 H locs ls hl hP hD hS hf
          rw [lo_P_addPawnMoves_63_s] at hf
          refine lv_iload hx hb dd_P_addPawnMoves_63 (lv_at hl 4 rfl) ?_
          refine lv_iconst (v := 5) hx hb dd_P_addPawnMoves_65 (by decide) ?_
          refine lv_icmp_gt (tgt := 90) hx hb dd_P_addPawnMoves_66 (by decide) (fun hc => ?_) (fun hc => ?_)
          · replace hf := qq_t hc hf
            refine lv_lload hx hb dd_P_addPawnMoves_90 (lv_at hl 2 rfl) ?_
            refine lv_lload hx hb dd_P_addPawnMoves_92 (lv_at hl 2 rfl) ?_
            refine lv_lconst (v := 1) hx hb dd_P_addPawnMoves_94 (by decide) ?_
            refine lv_lsub hx hb dd_P_addPawnMoves_95 ?_
            refine lv_land hx hb dd_P_addPawnMoves_96 ?_
            refine lv_topl (fun v1001 ev1001 => ?_)
            replace hf := qq_lt ev1001 hf
            refine lv_lstore (lv' := [(6, .long v1001), (1, .int a1), (2, .ref oW), (8, .int x8), (9, .int x9)]) hx hb dd_P_addPawnMoves_97 hl (by decide) rfl (fun ls hl => ?_)
            obtain ⟨v1002, ev1002⟩ : ∃ z, z = x8 + (-1) := ⟨_, rfl⟩
            replace hf := qq_lt ev1002 hf
            refine lv_iinc (k := 3) (v := v1002) (lv' := [(8, .int v1002), (6, .long v1001), (1, .int a1), (2, .ref oW), (9, .int x9)]) hx hb dd_P_addPawnMoves_99 hl rfl (by rw [ev1002]; exact congrArg _ (by decide)) (by decide) rfl (fun ls hl => ?_)
            refine lv_goto (tgt := 55) hx hb dd_P_addPawnMoves_102 (by decide) ?_
            exact ih55 rn rc v1001 v1002 _ _ _ (lv_sub hl [2, 3, 1, 0] rfl) hP hD hS hf
          · replace hf := qq_f hc hf
            refine lv_aload_n hx hb dd_P_addPawnMoves_69 rfl (lv_at hl 1 rfl) ?_
            refine lv_iload_n hx hb dd_P_addPawnMoves_70 rfl (lv_at hl 0 rfl) ?_
            refine lv_lload hx hb dd_P_addPawnMoves_71 (lv_at hl 2 rfl) ?_
            obtain ⟨r1003, hy1003, hf⟩ := qq_bd hf
            refine qq_S (As := [.long x6]) (rest := [.int a1, .ref oW]) (wr := [(oP, .inr (1, [.ref osq, .ref okg, .int sd, .int rt, .int ps])), (osq, .inl (cI, 64, .inl sq)), (okg, .inl (cI, 2, .inl kg)), (oW, .inr (2, [.ref orc, .int rn])), (orc, .inl (cI, 415, .inl rc))]) (wf := [(oP, .inr (1, [.ref osq, .ref okg, .int sd, .int rt, .int ps])), (osq, .inl (cI, 64, .inl sq)), (okg, .inl (cI, 2, .inl kg)), (oW, .inr (2, [.ref orc, .int rn])), (orc, .inl (cI, 415, .inl rc))]) ⟨hx, hb, hml, hown, hts⟩ (ct_P_lowestOf l dC dI cI cL cR x6 hy1003) mm_37 mm_38 mm_36 mm_15 hd_P_lowestOf (by decide) qq_00 hP hD hK hS hA hT hN [] [0, 1, 2, 3, 4] [0, 1, 2, 3, 4] rfl rfl rfl (by decide) rfl hl.1 rfl (Nat.le_of_ble_eq_true rfl) dd_P_addPawnMoves_73 (fun H locs hP hD hS => ?_)
            refine W.eq (g2 := F0 m 76 ls [.int r1003, .int a1, .ref oW]) rfl ?_
            refine lv_iload hx hb dd_P_addPawnMoves_76 (lv_at hl 4 rfl) ?_
            obtain ⟨r1004, hy1004, hf⟩ := qq_bd hf
            refine qq_SN (As := [.int a1, .int r1003, .int x9]) (rest := [.ref oW]) (wr := [(oP, .inr (1, [.ref osq, .ref okg, .int sd, .int rt, .int ps])), (osq, .inl (cI, 64, .inl sq)), (okg, .inl (cI, 2, .inl kg)), (oW, .inr (2, [.ref orc, .int rn])), (orc, .inl (cI, 415, .inl rc))]) (wf := [(oP, .inr (1, [.ref osq, .ref okg, .int sd, .int rt, .int ps])), (osq, .inl (cI, 64, .inl sq)), (okg, .inl (cI, 2, .inl kg)), (oW, .inr (2, [.ref orc, .int rn])), (orc, .inl (cI, 415, .inl rc))]) ⟨hx, hb, hml, hown, hts⟩ (ct_B_codeOf l dC dI cI cL cR a1 r1003 x9 hy1004) (hN.1 _ nm_0) mm_40 mm_39 mm_1 hd_B_codeOf (by decide) qq_00 hP hD hK hS hA hT hN [] [0, 1, 2, 3, 4] [0, 1, 2, 3, 4] rfl rfl rfl (by decide) rfl hl.1 rfl (Nat.le_of_ble_eq_true rfl) dd_P_addPawnMoves_78 (fun H locs hP hD hS => ?_)
            refine W.eq (g2 := F0 m 81 ls [.int r1004, .ref oW]) rfl ?_
            obtain ⟨⟨rn_1005, rc_1006⟩, hy1006, hf⟩ := qq_bd hf
            dsimp only at hf
            refine qq_V (As := [.int r1004]) (rest := []) (wr := [(oP, .inr (1, [.ref osq, .ref okg, .int sd, .int rt, .int ps])), (osq, .inl (cI, 64, .inl sq)), (okg, .inl (cI, 2, .inl kg))]) (wf := [(oP, .inr (1, [.ref osq, .ref okg, .int sd, .int rt, .int ps])), (osq, .inl (cI, 64, .inl sq)), (okg, .inl (cI, 2, .inl kg)), (oW, .inr (2, [.ref orc, .int rn_1005])), (orc, .inl (cI, 415, .inl rc_1006))]) ⟨hx, hb, hml, hown, hts⟩ (ct_W_add l dC dI cI cL cR oW orc rn rc r1004 hy1006) mm_43 mm_44 mm_45 mm_41 mm_42 hd_W_add (by decide) qq_00 hP hD hK hS hA hT hN (q0 := 3) (ci := 2) rfl rfl [3, 4] [0, 1, 2] [0, 1, 2, 3, 4] rfl rfl rfl (by decide) rfl hl.1 rfl (Nat.le_of_ble_eq_true rfl) dd_P_addPawnMoves_81 (fun H locs hP hD hS => ?_)
            refine W.eq (g2 := F0 m 84 ls []) rfl ?_
            obtain ⟨v1007, ev1007⟩ : ∃ z, z = x9 + 1 := ⟨_, rfl⟩
            replace hf := qq_lt ev1007 hf
            refine lv_iinc (k := 4) (v := v1007) (lv' := [(9, .int v1007), (1, .int a1), (2, .ref oW), (6, .long x6), (8, .int x8)]) hx hb dd_P_addPawnMoves_84 hl rfl (by rw [ev1007]; exact congrArg _ (by decide)) (by decide) rfl (fun ls hl => ?_)
            refine lv_goto (tgt := 63) hx hb dd_P_addPawnMoves_87 (by decide) ?_
            exact ih63 rn_1005 rc_1006 x6 x8 v1007 _ _ _ (lv_sub hl [1, 2, 3, 4, 0] rfl) hP hD hS hf
      intro rn rc x6 x8 H locs ls hl hP hD hS hf
      rw [lo_P_addPawnMoves_55_s] at hf
      refine lv_iload hx hb dd_P_addPawnMoves_55 (lv_at hl 3 rfl) ?_
      refine lv_if_le (tgt := 105) hx hb dd_P_addPawnMoves_57 (by decide) (fun hc => ?_) (fun hc => ?_)
      · replace hf := qq_t hc hf
        cases hf
        exact qq_vret hx hb hr hlocks hQ hP hD hK hS dd_P_addPawnMoves_105
      · replace hf := qq_f hc hf
        refine lv_iconst (v := 2) hx hb dd_P_addPawnMoves_60 (by decide) ?_
        refine lv_istore (lv' := [(9, .int 2), (1, .int a1), (2, .ref oW), (6, .long x6), (8, .int x8)]) hx hb dd_P_addPawnMoves_61 hl (by decide) rfl (fun ls hl => ?_)
        exact hL63 qq_FU rn rc x6 x8 2 _ _ _ (lv_sub hl [1, 2, 3, 4, 0] rfl) hP hD hS hf
  have hJ31 : ∀ (rn : Int32) (rc : Nat → Int32) (x3 : Int64) (s0 : Int32) (H : Heap) (locs : List Loc) (ls : Array Slot), lv_has ls 10 [(0, .ref oP), (1, .int a1), (2, .ref oW), (3, .long x3)] → va_P (dC, dI) classes [(oP, .inr (1, [.ref osq, .ref okg, .int sd, .int rt, .int ps])), (osq, .inl (cI, 64, .inl sq)), (okg, .inl (cI, 2, .inl kg)), (oW, .inr (2, [.ref orc, .int rn])), (orc, .inl (cI, 415, .inl rc))] H → va_D A [(oP, .inr (1, [.ref osq, .ref okg, .int sd, .int rt, .int ps])), (osq, .inl (cI, 64, .inl sq)), (okg, .inl (cI, 2, .inl kg)), (oW, .inr (2, [.ref orc, .int rn])), (orc, .inl (cI, 415, .inl rc))] → va_S A s.heap H locs → bk_P_addPawnMoves_31 sd ps sq a1 rn rc x3 s0 = some (rn', rc') → W p l e rm_P_addPawnMoves s m ([.ref oP, .int a1, .ref oW] : List Value).toArray below meth c H locs 0 0 Q (F0 m 31 ls [.int s0]) := by
    intro rn rc x3 s0 H locs ls hl hP hD hS hf
    rw [bk_P_addPawnMoves_31] at hf
    refine lv_istore (lv' := [(5, .int s0), (0, .ref oP), (1, .int a1), (2, .ref oW), (3, .long x3)]) hx hb dd_P_addPawnMoves_31 hl (by decide) rfl (fun ls hl => ?_)
    refine lv_iload hx hb dd_P_addPawnMoves_33 (lv_at hl 0 rfl) ?_
    refine lv_if_ne (tgt := 46) hx hb dd_P_addPawnMoves_35 (by decide) (fun hc => ?_) (fun hc => ?_)
    · replace hf := qq_f hc hf
      refine lv_lload_n hx hb dd_P_addPawnMoves_46 rfl (lv_at hl 4 rfl) ?_
      refine lv_lstore (lv' := [(6, .long x3), (5, .int s0), (0, .ref oP), (1, .int a1), (2, .ref oW), (3, .long x3)]) hx hb dd_P_addPawnMoves_47 hl (by decide) rfl (fun ls hl => ?_)
      refine lv_lload_n hx hb dd_P_addPawnMoves_49 rfl (lv_at hl 5 rfl) ?_
      obtain ⟨r3001, hy3001, hf⟩ := qq_bd hf
      refine qq_S (As := [.long x3]) (rest := []) (wr := [(oP, .inr (1, [.ref osq, .ref okg, .int sd, .int rt, .int ps])), (osq, .inl (cI, 64, .inl sq)), (okg, .inl (cI, 2, .inl kg)), (oW, .inr (2, [.ref orc, .int rn])), (orc, .inl (cI, 415, .inl rc))]) (wf := [(oP, .inr (1, [.ref osq, .ref okg, .int sd, .int rt, .int ps])), (osq, .inl (cI, 64, .inl sq)), (okg, .inl (cI, 2, .inl kg)), (oW, .inr (2, [.ref orc, .int rn])), (orc, .inl (cI, 415, .inl rc))]) ⟨hx, hb, hml, hown, hts⟩ (ct_JL_bitCount l dC dI cI cL cR x3 hy3001) mm_32 mm_33 mm_30 mm_31 hd_JL_bitCount (by decide) qq_00 hP hD hK hS hA hT hN [] [0, 1, 2, 3, 4] [0, 1, 2, 3, 4] rfl rfl rfl (by decide) rfl hl.1 rfl (Nat.le_of_ble_eq_true rfl) dd_P_addPawnMoves_50 (fun H locs hP hD hS => ?_)
      refine W.eq (g2 := F0 m 53 ls [.int r3001]) rfl ?_
      refine lv_istore (lv' := [(8, .int r3001), (6, .long x3), (5, .int s0), (0, .ref oP), (1, .int a1), (2, .ref oW), (3, .long x3)]) hx hb dd_P_addPawnMoves_53 hl (by decide) rfl (fun ls hl => ?_)
      exact hL55 qq_FU rn rc x3 r3001 _ _ _ (lv_sub hl [4, 5, 1, 0] rfl) hP hD hS hf
    · replace hf := qq_t hc hf
      refine lv_aload_n hx hb dd_P_addPawnMoves_38 rfl (lv_at hl 1 rfl) ?_
      refine lv_iload_n hx hb dd_P_addPawnMoves_39 rfl (lv_at hl 2 rfl) ?_
      refine lv_lload_n hx hb dd_P_addPawnMoves_40 rfl (lv_at hl 4 rfl) ?_
      refine lv_aload_n hx hb dd_P_addPawnMoves_41 rfl (lv_at hl 3 rfl) ?_
      obtain ⟨⟨rn_3002, rc_3003⟩, hy3003, hf⟩ := qq_bd hf
      dsimp only at hf
      refine qq_V (As := [.int a1, .long x3, .ref oW]) (rest := []) (wr := []) (wf := [(oP, .inr (1, [.ref osq, .ref okg, .int sd, .int rt, .int ps])), (osq, .inl (cI, 64, .inl sq)), (okg, .inl (cI, 2, .inl kg)), (oW, .inr (2, [.ref orc, .int rn_3002])), (orc, .inl (cI, 415, .inl rc_3003))]) ⟨hx, hb, hml, hown, hts⟩ (ct_P_addMoves l dC dI cI cL cR oP osq okg oW orc sd rt ps sq kg rn rc a1 x3 hy3003) mm_47 mm_48 mm_49 mm_46 mm_15 hd_P_addMoves (by decide) qq_00 hP hD hK hS hA hT hN (q0 := 0) (ci := 1) rfl rfl [0, 1, 2, 3, 4] [] [0, 1, 2, 3, 4] rfl rfl rfl (by decide) rfl hl.1 rfl (Nat.le_of_ble_eq_true rfl) dd_P_addPawnMoves_42 (fun H locs hP hD hS => ?_)
      refine W.eq (g2 := F0 m 45 ls []) rfl ?_
      cases hf
      exact qq_vret hx hb hr hlocks hQ hP hD hK hS dd_P_addPawnMoves_45
  have hJ23 : ∀ (rn : Int32) (rc : Nat → Int32) (x3 : Int64) (s0 : Int32) (s1 : Int32) (H : Heap) (locs : List Loc) (ls : Array Slot), lv_has ls 10 [(0, .ref oP), (1, .int a1), (2, .ref oW), (3, .long x3)] → va_P (dC, dI) classes [(oP, .inr (1, [.ref osq, .ref okg, .int sd, .int rt, .int ps])), (osq, .inl (cI, 64, .inl sq)), (okg, .inl (cI, 2, .inl kg)), (oW, .inr (2, [.ref orc, .int rn])), (orc, .inl (cI, 415, .inl rc))] H → va_D A [(oP, .inr (1, [.ref osq, .ref okg, .int sd, .int rt, .int ps])), (osq, .inl (cI, 64, .inl sq)), (okg, .inl (cI, 2, .inl kg)), (oW, .inr (2, [.ref orc, .int rn])), (orc, .inl (cI, 415, .inl rc))] → va_S A s.heap H locs → bk_P_addPawnMoves_23 sd ps sq a1 rn rc x3 s0 s1 = some (rn', rc') → W p l e rm_P_addPawnMoves s m ([.ref oP, .int a1, .ref oW] : List Value).toArray below meth c H locs 0 0 Q (F0 m 23 ls [.int s1, .int s0]) := by
    intro rn rc x3 s0 s1 H locs ls hl hP hD hS hf
    rw [bk_P_addPawnMoves_23] at hf
    refine lv_icmp_ne (tgt := 30) hx hb dd_P_addPawnMoves_23 (by decide) (fun hc => ?_) (fun hc => ?_)
    · replace hf := qq_f hc hf
      refine lv_iconst (v := 0) hx hb dd_P_addPawnMoves_30 (by decide) ?_
      exact hJ31 rn rc x3 0 _ _ _ (lv_sub hl [0, 1, 2, 3] rfl) hP hD hS hf
    · replace hf := qq_t hc hf
      refine lv_iconst (v := 1) hx hb dd_P_addPawnMoves_26 (by decide) ?_
      refine lv_goto (tgt := 31) hx hb dd_P_addPawnMoves_27 (by decide) ?_
      exact hJ31 rn rc x3 1 _ _ _ (lv_sub hl [0, 1, 2, 3] rfl) hP hD hS hf
  rw [fn_P_addPawnMoves] at hf
  refine lv_aload_n hx hb dd_P_addPawnMoves_0 rfl (lv_at hl 0 rfl) ?_
  refine lv_iload_n hx hb dd_P_addPawnMoves_1 rfl (lv_at hl 1 rfl) ?_
  obtain ⟨r1, hy1, hf⟩ := qq_bd hf
  refine qq_V (As := [.int a1]) (rest := []) (wr := [(oW, .inr (2, [.ref orc, .int rn])), (orc, .inl (cI, 415, .inl rc))]) (wf := [(oP, .inr (1, [.ref osq, .ref okg, .int sd, .int rt, .int ps])), (osq, .inl (cI, 64, .inl sq)), (okg, .inl (cI, 2, .inl kg)), (oW, .inr (2, [.ref orc, .int rn])), (orc, .inl (cI, 415, .inl rc))]) ⟨hx, hb, hml, hown, hts⟩ (ct_P_targetsOfPawn l dC dI cI cL cR oP osq okg sd rt ps sq kg a1 hy1) mm_51 mm_52 mm_53 mm_50 mm_15 hd_P_targetsOfPawn (by decide) qq_00 hP hD hK hS hA hT hN (q0 := 0) (ci := 1) rfl rfl [0, 1, 2] [3, 4] [2, 3, 4, 0, 1] rfl rfl rfl (by decide) rfl hl.1 rfl (Nat.le_of_ble_eq_true rfl) dd_P_addPawnMoves_2 (fun H locs hP hD hS => ?_)
  refine W.eq (g2 := F0 m 5 ls [.long r1]) rfl ?_
  refine lv_lstore_n (lv' := [(3, .long r1), (0, .ref oP), (1, .int a1), (2, .ref oW)]) hx hb dd_P_addPawnMoves_5 rfl hl (by decide) rfl (fun ls hl => ?_)
  refine lv_iload_n hx hb dd_P_addPawnMoves_6 rfl (lv_at hl 2 rfl) ?_
  refine lv_bipush (v := 8) hx hb dd_P_addPawnMoves_7 (by decide) ?_
  refine lv_idiv hx hb dd_P_addPawnMoves_9 (by decide) ?_
  refine lv_aload_n hx hb dd_P_addPawnMoves_10 rfl (lv_at hl 1 rfl) ?_
  refine va_get (D := (dC, dI)) (ci := 1) (v := .int sd) (C := RR_P) (T := FF_P) (N := 5) hx hb hts uu_P hown hK hP 0 rfl rfl 2 (by decide) (hts _ mm_12) (fun _ h9 => h9) rfl dd_P_addPawnMoves_11 ?_
  refine lv_if_ne (tgt := 22) hx hb dd_P_addPawnMoves_14 (by decide) (fun hc => ?_) (fun hc => ?_)
  · replace hf := qq_f hc hf
    refine lv_iconst (v := 1) hx hb dd_P_addPawnMoves_22 (by decide) ?_
    exact hJ23 rn rc r1 (a1 / 8) 1 _ _ _ (lv_sub hl [1, 2, 3, 0] rfl) hP hD hS hf
  · replace hf := qq_t hc hf
    refine lv_bipush (v := 6) hx hb dd_P_addPawnMoves_17 (by decide) ?_
    refine lv_goto (tgt := 23) hx hb dd_P_addPawnMoves_19 (by decide) ?_
    exact hJ23 rn rc r1 (a1 / 8) 6 _ _ _ (lv_sub hl [1, 2, 3, 0] rfl) hP hD hS hf
theorem dd_P_targetsOnWays_0 : decode bb_P_targetsOnWays 0 = .ok (.lconst 0, 1) := by decide +kernel
theorem dd_P_targetsOnWays_1 : decode bb_P_targetsOnWays 1 = .ok (.lstore 5, 2) := by decide +kernel
theorem dd_P_targetsOnWays_3 : decode bb_P_targetsOnWays 3 = .ok (.iload_n 2, 1) := by decide +kernel
theorem dd_P_targetsOnWays_4 : decode bb_P_targetsOnWays 4 = .ok (.istore 7, 2) := by decide +kernel
theorem dd_P_targetsOnWays_6 : decode bb_P_targetsOnWays 6 = .ok (.iload 7, 2) := by decide +kernel
theorem dd_P_targetsOnWays_8 : decode bb_P_targetsOnWays 8 = .ok (.iload_n 3, 1) := by decide +kernel
theorem dd_P_targetsOnWays_9 : decode bb_P_targetsOnWays 9 = .ok (.if_icmp .ge 100, 3) := by decide +kernel
theorem dd_P_targetsOnWays_12 : decode bb_P_targetsOnWays 12 = .ok (.iload 4, 2) := by decide +kernel
theorem dd_P_targetsOnWays_14 : decode bb_P_targetsOnWays 14 = .ok (.iload 7, 2) := by decide +kernel
theorem dd_P_targetsOnWays_16 : decode bb_P_targetsOnWays 16 = .ok (.iload_n 1, 1) := by decide +kernel
theorem dd_P_targetsOnWays_17 : decode bb_P_targetsOnWays 17 = .ok (.invokestatic 25, 3) := by decide +kernel
theorem dd_P_targetsOnWays_20 : decode bb_P_targetsOnWays 20 = .ok (.invokestatic 123, 3) := by decide +kernel
theorem dd_P_targetsOnWays_23 : decode bb_P_targetsOnWays 23 = .ok (.istore 8, 2) := by decide +kernel
theorem dd_P_targetsOnWays_25 : decode bb_P_targetsOnWays 25 = .ok (.iload_n 1, 1) := by decide +kernel
theorem dd_P_targetsOnWays_26 : decode bb_P_targetsOnWays 26 = .ok (.istore 9, 2) := by decide +kernel
theorem dd_P_targetsOnWays_28 : decode bb_P_targetsOnWays 28 = .ok (.iconst 1, 1) := by decide +kernel
theorem dd_P_targetsOnWays_29 : decode bb_P_targetsOnWays 29 = .ok (.istore 10, 2) := by decide +kernel
theorem dd_P_targetsOnWays_31 : decode bb_P_targetsOnWays 31 = .ok (.iconst 1, 1) := by decide +kernel
theorem dd_P_targetsOnWays_32 : decode bb_P_targetsOnWays 32 = .ok (.istore 11, 2) := by decide +kernel
theorem dd_P_targetsOnWays_34 : decode bb_P_targetsOnWays 34 = .ok (.iload 11, 2) := by decide +kernel
theorem dd_P_targetsOnWays_36 : decode bb_P_targetsOnWays 36 = .ok (.iload 8, 2) := by decide +kernel
theorem dd_P_targetsOnWays_38 : decode bb_P_targetsOnWays 38 = .ok (.if_icmp .gt 65, 3) := by decide +kernel
theorem dd_P_targetsOnWays_41 : decode bb_P_targetsOnWays 41 = .ok (.iload 10, 2) := by decide +kernel
theorem dd_P_targetsOnWays_43 : decode bb_P_targetsOnWays 43 = .ok (.ifCond .eq 60, 3) := by decide +kernel
theorem dd_P_targetsOnWays_46 : decode bb_P_targetsOnWays 46 = .ok (.iload 9, 2) := by decide +kernel
theorem dd_P_targetsOnWays_48 : decode bb_P_targetsOnWays 48 = .ok (.getstatic 29, 3) := by decide +kernel
theorem dd_P_targetsOnWays_51 : decode bb_P_targetsOnWays 51 = .ok (.iload 7, 2) := by decide +kernel
theorem dd_P_targetsOnWays_53 : decode bb_P_targetsOnWays 53 = .ok (.iaload, 1) := by decide +kernel
theorem dd_P_targetsOnWays_54 : decode bb_P_targetsOnWays 54 = .ok (.iadd, 1) := by decide +kernel
theorem dd_P_targetsOnWays_55 : decode bb_P_targetsOnWays 55 = .ok (.istore 9, 2) := by decide +kernel
theorem dd_P_targetsOnWays_57 : decode bb_P_targetsOnWays 57 = .ok (.aload_n 0, 1) := by decide +kernel
theorem dd_P_targetsOnWays_58 : decode bb_P_targetsOnWays 58 = .ok (.getfield 9, 3) := by decide +kernel
theorem dd_P_targetsOnWays_61 : decode bb_P_targetsOnWays 61 = .ok (.iload 9, 2) := by decide +kernel
theorem dd_P_targetsOnWays_63 : decode bb_P_targetsOnWays 63 = .ok (.iaload, 1) := by decide +kernel
theorem dd_P_targetsOnWays_64 : decode bb_P_targetsOnWays 64 = .ok (.ifCond .ne 7, 3) := by decide +kernel
theorem dd_P_targetsOnWays_67 : decode bb_P_targetsOnWays 67 = .ok (.iconst 1, 1) := by decide +kernel
theorem dd_P_targetsOnWays_68 : decode bb_P_targetsOnWays 68 = .ok (.goto 4, 3) := by decide +kernel
theorem dd_P_targetsOnWays_71 : decode bb_P_targetsOnWays 71 = .ok (.iconst 0, 1) := by decide +kernel
theorem dd_P_targetsOnWays_72 : decode bb_P_targetsOnWays 72 = .ok (.istore 10, 2) := by decide +kernel
theorem dd_P_targetsOnWays_74 : decode bb_P_targetsOnWays 74 = .ok (.iload 10, 2) := by decide +kernel
theorem dd_P_targetsOnWays_76 : decode bb_P_targetsOnWays 76 = .ok (.ifCond .ne 12, 3) := by decide +kernel
theorem dd_P_targetsOnWays_79 : decode bb_P_targetsOnWays 79 = .ok (.aload_n 0, 1) := by decide +kernel
theorem dd_P_targetsOnWays_80 : decode bb_P_targetsOnWays 80 = .ok (.iload 9, 2) := by decide +kernel
theorem dd_P_targetsOnWays_82 : decode bb_P_targetsOnWays 82 = .ok (.invokevirtual 128, 3) := by decide +kernel
theorem dd_P_targetsOnWays_85 : decode bb_P_targetsOnWays 85 = .ok (.ifCond .eq 12, 3) := by decide +kernel
theorem dd_P_targetsOnWays_88 : decode bb_P_targetsOnWays 88 = .ok (.lload 5, 2) := by decide +kernel
theorem dd_P_targetsOnWays_90 : decode bb_P_targetsOnWays 90 = .ok (.lconst 1, 1) := by decide +kernel
theorem dd_P_targetsOnWays_91 : decode bb_P_targetsOnWays 91 = .ok (.iload 9, 2) := by decide +kernel
theorem dd_P_targetsOnWays_93 : decode bb_P_targetsOnWays 93 = .ok (.lshl, 1) := by decide +kernel
theorem dd_P_targetsOnWays_94 : decode bb_P_targetsOnWays 94 = .ok (.lor, 1) := by decide +kernel
theorem dd_P_targetsOnWays_95 : decode bb_P_targetsOnWays 95 = .ok (.lstore 5, 2) := by decide +kernel
theorem dd_P_targetsOnWays_97 : decode bb_P_targetsOnWays 97 = .ok (.iinc 11 1, 3) := by decide +kernel
theorem dd_P_targetsOnWays_100 : decode bb_P_targetsOnWays 100 = .ok (.goto (-66), 3) := by decide +kernel
theorem dd_P_targetsOnWays_103 : decode bb_P_targetsOnWays 103 = .ok (.iinc 7 1, 3) := by decide +kernel
theorem dd_P_targetsOnWays_106 : decode bb_P_targetsOnWays 106 = .ok (.goto (-100), 3) := by decide +kernel
theorem dd_P_targetsOnWays_109 : decode bb_P_targetsOnWays 109 = .ok (.lload 5, 2) := by decide +kernel
theorem dd_P_targetsOnWays_111 : decode bb_P_targetsOnWays 111 = .ok (.lreturn, 1) := by decide +kernel
abbrev ty_P_targetsOnWays : Type := Int64
noncomputable def bk_P_targetsOnWays_103 (sd : Int32) (sq : Nat → Int32) (a1 : Int32) (a2 : Int32) (a3 : Int32) (a4 : Int32) (k6 : Int64 → Int32 → Option ty_P_targetsOnWays) (x5 : Int64) (x7 : Int32) : Option ty_P_targetsOnWays := qq_let (x7 + 1) fun v1001 => k6 x5 v1001
noncomputable def bk_P_targetsOnWays_97 (sd : Int32) (sq : Nat → Int32) (a1 : Int32) (a2 : Int32) (a3 : Int32) (a4 : Int32) (k6 : Int64 → Int32 → Option ty_P_targetsOnWays) (k34 : Int64 → Int32 → Int32 → Int32 → Int32 → Int32 → Option ty_P_targetsOnWays) (x5 : Int64) (x7 : Int32) (x8 : Int32) (x9 : Int32) (x10 : Int32) (x11 : Int32) : Option ty_P_targetsOnWays := qq_let (x11 + 1) fun v2001 => k34 x5 x7 x8 x9 x10 v2001
noncomputable def bk_P_targetsOnWays_88 (sd : Int32) (sq : Nat → Int32) (a1 : Int32) (a2 : Int32) (a3 : Int32) (a4 : Int32) (k6 : Int64 → Int32 → Option ty_P_targetsOnWays) (k34 : Int64 → Int32 → Int32 → Int32 → Int32 → Int32 → Option ty_P_targetsOnWays) (x5 : Int64) (x7 : Int32) (x8 : Int32) (x9 : Int32) (x10 : Int32) (x11 : Int32) : Option ty_P_targetsOnWays := qq_let (x5 ||| ((1 : Int64) <<< (x9.toInt64 &&& 63))) fun v3001 => bk_P_targetsOnWays_97 sd sq a1 a2 a3 a4 k6 k34 v3001 x7 x8 x9 x10 x11
noncomputable def bk_P_targetsOnWays_72 (sd : Int32) (sq : Nat → Int32) (a1 : Int32) (a2 : Int32) (a3 : Int32) (a4 : Int32) (k6 : Int64 → Int32 → Option ty_P_targetsOnWays) (k34 : Int64 → Int32 → Int32 → Int32 → Int32 → Int32 → Option ty_P_targetsOnWays) (x5 : Int64) (x7 : Int32) (x8 : Int32) (x9 : Int32) (x11 : Int32) (s0 : Int32) : Option ty_P_targetsOnWays := if s0 = 0 then ((fn_P_isOther sd sq x9).bind fun r4001 => if r4001 = 0 then (bk_P_targetsOnWays_97 sd sq a1 a2 a3 a4 k6 k34 x5 x7 x8 x9 s0 x11) else (bk_P_targetsOnWays_88 sd sq a1 a2 a3 a4 k6 k34 x5 x7 x8 x9 s0 x11)) else (bk_P_targetsOnWays_88 sd sq a1 a2 a3 a4 k6 k34 x5 x7 x8 x9 s0 x11)
noncomputable def lo_P_targetsOnWays_34 (sd : Int32) (sq : Nat → Int32) (a1 : Int32) (a2 : Int32) (a3 : Int32) (a4 : Int32) (k6 : Int64 → Int32 → Option ty_P_targetsOnWays) : Nat → Int64 → Int32 → Int32 → Int32 → Int32 → Int32 → Option ty_P_targetsOnWays
  | 0, _, _, _, _, _, _ => none
  | n + 1, x5, x7, x8, x9, x10, x11 => if x8 < x11 then (bk_P_targetsOnWays_103 sd sq a1 a2 a3 a4 k6 x5 x7) else (if x10 = 0 then (bk_P_targetsOnWays_103 sd sq a1 a2 a3 a4 k6 x5 x7) else (qq_ck (qq_in x7 8) <| qq_let (x9 + (tb_WAY_STEPS x7.toNatClampNeg)) fun v5002 => qq_ck (qq_in v5002 64) <| if (sq v5002.toNatClampNeg) = 0 then (bk_P_targetsOnWays_72 sd sq a1 a2 a3 a4 k6 (lo_P_targetsOnWays_34 sd sq a1 a2 a3 a4 k6 n) x5 x7 x8 v5002 x11 1) else (bk_P_targetsOnWays_72 sd sq a1 a2 a3 a4 k6 (lo_P_targetsOnWays_34 sd sq a1 a2 a3 a4 k6 n) x5 x7 x8 v5002 x11 0)))
theorem lo_P_targetsOnWays_34_z (sd : Int32) (sq : Nat → Int32) (a1 : Int32) (a2 : Int32) (a3 : Int32) (a4 : Int32) (k6 : Int64 → Int32 → Option ty_P_targetsOnWays) (x5 : Int64) (x7 : Int32) (x8 : Int32) (x9 : Int32) (x10 : Int32) (x11 : Int32) : lo_P_targetsOnWays_34 sd sq a1 a2 a3 a4 k6 0 x5 x7 x8 x9 x10 x11 = none := rfl
theorem lo_P_targetsOnWays_34_s (sd : Int32) (sq : Nat → Int32) (a1 : Int32) (a2 : Int32) (a3 : Int32) (a4 : Int32) (k6 : Int64 → Int32 → Option ty_P_targetsOnWays) (x5 : Int64) (x7 : Int32) (x8 : Int32) (x9 : Int32) (x10 : Int32) (x11 : Int32) (n : Nat) : lo_P_targetsOnWays_34 sd sq a1 a2 a3 a4 k6 (n + 1) x5 x7 x8 x9 x10 x11 = (if x8 < x11 then (bk_P_targetsOnWays_103 sd sq a1 a2 a3 a4 k6 x5 x7) else (if x10 = 0 then (bk_P_targetsOnWays_103 sd sq a1 a2 a3 a4 k6 x5 x7) else (qq_ck (qq_in x7 8) <| qq_let (x9 + (tb_WAY_STEPS x7.toNatClampNeg)) fun v5002 => qq_ck (qq_in v5002 64) <| if (sq v5002.toNatClampNeg) = 0 then (bk_P_targetsOnWays_72 sd sq a1 a2 a3 a4 k6 (lo_P_targetsOnWays_34 sd sq a1 a2 a3 a4 k6 n) x5 x7 x8 v5002 x11 1) else (bk_P_targetsOnWays_72 sd sq a1 a2 a3 a4 k6 (lo_P_targetsOnWays_34 sd sq a1 a2 a3 a4 k6 n) x5 x7 x8 v5002 x11 0)))) := rfl
noncomputable def lo_P_targetsOnWays_6 (sd : Int32) (sq : Nat → Int32) (a1 : Int32) (a2 : Int32) (a3 : Int32) (a4 : Int32) : Nat → Int64 → Int32 → Option ty_P_targetsOnWays
  | 0, _, _ => none
  | n + 1, x5, x7 => if a3 ≤ x7 then (some x5) else ((fn_P_stepsToBorder x7 a1).bind fun r6001 => qq_let (if r6001 < a4 then r6001 else a4) fun v6002 => lo_P_targetsOnWays_34 sd sq a1 a2 a3 a4 (lo_P_targetsOnWays_6 sd sq a1 a2 a3 a4 n) qq_FU x5 x7 v6002 a1 1 1)
theorem lo_P_targetsOnWays_6_z (sd : Int32) (sq : Nat → Int32) (a1 : Int32) (a2 : Int32) (a3 : Int32) (a4 : Int32) (x5 : Int64) (x7 : Int32) : lo_P_targetsOnWays_6 sd sq a1 a2 a3 a4 0 x5 x7 = none := rfl
theorem lo_P_targetsOnWays_6_s (sd : Int32) (sq : Nat → Int32) (a1 : Int32) (a2 : Int32) (a3 : Int32) (a4 : Int32) (x5 : Int64) (x7 : Int32) (n : Nat) : lo_P_targetsOnWays_6 sd sq a1 a2 a3 a4 (n + 1) x5 x7 = (if a3 ≤ x7 then (some x5) else ((fn_P_stepsToBorder x7 a1).bind fun r6001 => qq_let (if r6001 < a4 then r6001 else a4) fun v6002 => lo_P_targetsOnWays_34 sd sq a1 a2 a3 a4 (lo_P_targetsOnWays_6 sd sq a1 a2 a3 a4 n) qq_FU x5 x7 v6002 a1 1 1)) := rfl
noncomputable def fn_P_targetsOnWays (sd : Int32) (sq : Nat → Int32) (a1 : Int32) (a2 : Int32) (a3 : Int32) (a4 : Int32) : Option ty_P_targetsOnWays := qq_let (0 : Int64) fun v1 => lo_P_targetsOnWays_6 sd sq a1 a2 a3 a4 qq_FU v1 a2
abbrev rm_P_targetsOnWays : Room := { frames := 1, cells := 0, slots := 0, locals := 25 }
set_option maxHeartbeats 4000000 in
set_option maxRecDepth 100000 in
theorem ct_P_targetsOnWays (l : Launch) (dC : Nat → ClassId) (dI : Nat → Nat → Nat) (cI cL cR : ClassId) (oP osq okg : Nat) (sd : Int32) (rt : Int32) (ps : Int32) (sq : Nat → Int32) (kg : Nat → Int32) (a1 : Int32) (a2 : Int32) (a3 : Int32) (a4 : Int32) {rr : Int64} (hf : fn_P_targetsOnWays sd sq a1 a2 a3 a4 = some rr) : qq_det l yy_P_targetsOnWays (ww_of yy_P_targetsOnWays bb_P_targetsOnWays 12 (some .long)) rm_P_targetsOnWays (dC, dI) (qq_ty cI cL cR) [.ref oP, .int a1, .int a2, .int a3, .int a4] [(oP, .inr (1, [.ref osq, .ref okg, .int sd, .int rt, .int ps])), (osq, .inl (cI, 64, .inl sq)), (okg, .inl (cI, 2, .inl kg))] (some (.long rr)) [(oP, .inr (1, [.ref osq, .ref okg, .int sd, .int rt, .int ps])), (osq, .inl (cI, 64, .inl sq)), (okg, .inl (cI, 2, .inl kg))] := by
  refine qq_of (own := RR_P) (by decide) rfl (Nat.le_of_ble_eq_true rfl) ?_
  intro p e s m below meth c A Q ls hx hb hml hr hlocks hown hts hK hA hT hN hP hD hS hl hQ
  have hl : lv_has ls 12 [(0, .ref oP), (1, .int a1), (2, .int a2), (3, .int a3), (4, .int a4)] := hl
  obtain ⟨t_WAY_STEPS, hZ_WAY_STEPS, hT_WAY_STEPS⟩ := qq_T3 hT
  have hL6 : ∀ (n6 : Nat) (x5 : Int64) (x7 : Int32) (H : Heap) (locs : List Loc) (ls : Array Slot), lv_has ls 12 [(0, .ref oP), (1, .int a1), (3, .int a3), (4, .int a4), (5, .long x5), (7, .int x7)] → va_P (dC, dI) classes [(oP, .inr (1, [.ref osq, .ref okg, .int sd, .int rt, .int ps])), (osq, .inl (cI, 64, .inl sq)), (okg, .inl (cI, 2, .inl kg))] H → va_D A [(oP, .inr (1, [.ref osq, .ref okg, .int sd, .int rt, .int ps])), (osq, .inl (cI, 64, .inl sq)), (okg, .inl (cI, 2, .inl kg))] → va_S A s.heap H locs → lo_P_targetsOnWays_6 sd sq a1 a2 a3 a4 n6 x5 x7 = some rr → W p l e rm_P_targetsOnWays s m ([.ref oP, .int a1, .int a2, .int a3, .int a4] : List Value).toArray below meth c H locs 0 0 Q (F0 m 6 ls []) := by
    intro n6
    induction n6 with
    | zero => exact fun x5 x7 H locs ls hl hP hD hS hf => absurd hf (by rw [lo_P_targetsOnWays_6_z]; exact fun h => by cases h)
    | succ n6 ih6 =>
      have hJ103 : ∀ (x5 : Int64) (x7 : Int32) (H : Heap) (locs : List Loc) (ls : Array Slot), lv_has ls 12 [(0, .ref oP), (1, .int a1), (3, .int a3), (4, .int a4), (5, .long x5), (7, .int x7)] → va_P (dC, dI) classes [(oP, .inr (1, [.ref osq, .ref okg, .int sd, .int rt, .int ps])), (osq, .inl (cI, 64, .inl sq)), (okg, .inl (cI, 2, .inl kg))] H → va_D A [(oP, .inr (1, [.ref osq, .ref okg, .int sd, .int rt, .int ps])), (osq, .inl (cI, 64, .inl sq)), (okg, .inl (cI, 2, .inl kg))] → va_S A s.heap H locs → bk_P_targetsOnWays_103 sd sq a1 a2 a3 a4 (lo_P_targetsOnWays_6 sd sq a1 a2 a3 a4 n6) x5 x7 = some rr → W p l e rm_P_targetsOnWays s m ([.ref oP, .int a1, .int a2, .int a3, .int a4] : List Value).toArray below meth c H locs 0 0 Q (F0 m 103 ls []) := by
        intro x5 x7 H locs ls hl hP hD hS hf
        rw [bk_P_targetsOnWays_103] at hf
        obtain ⟨v1001, ev1001⟩ : ∃ z, z = x7 + 1 := ⟨_, rfl⟩
        replace hf := qq_lt ev1001 hf
        refine lv_iinc (k := 5) (v := v1001) (lv' := [(7, .int v1001), (0, .ref oP), (1, .int a1), (3, .int a3), (4, .int a4), (5, .long x5)]) hx hb dd_P_targetsOnWays_103 hl rfl (by rw [ev1001]; exact congrArg _ (by decide)) (by decide) rfl (fun ls hl => ?_)
        refine lv_goto (tgt := 6) hx hb dd_P_targetsOnWays_106 (by decide) ?_
        exact ih6 x5 v1001 _ _ _ (lv_sub hl [1, 2, 3, 4, 5, 0] rfl) hP hD hS hf
      have hL34 : ∀ (n34 : Nat) (x5 : Int64) (x7 : Int32) (x8 : Int32) (x9 : Int32) (x10 : Int32) (x11 : Int32) (H : Heap) (locs : List Loc) (ls : Array Slot), lv_has ls 12 [(0, .ref oP), (1, .int a1), (3, .int a3), (4, .int a4), (5, .long x5), (7, .int x7), (8, .int x8), (9, .int x9), (10, .int x10), (11, .int x11)] → va_P (dC, dI) classes [(oP, .inr (1, [.ref osq, .ref okg, .int sd, .int rt, .int ps])), (osq, .inl (cI, 64, .inl sq)), (okg, .inl (cI, 2, .inl kg))] H → va_D A [(oP, .inr (1, [.ref osq, .ref okg, .int sd, .int rt, .int ps])), (osq, .inl (cI, 64, .inl sq)), (okg, .inl (cI, 2, .inl kg))] → va_S A s.heap H locs → lo_P_targetsOnWays_34 sd sq a1 a2 a3 a4 (lo_P_targetsOnWays_6 sd sq a1 a2 a3 a4 n6) n34 x5 x7 x8 x9 x10 x11 = some rr → W p l e rm_P_targetsOnWays s m ([.ref oP, .int a1, .int a2, .int a3, .int a4] : List Value).toArray below meth c H locs 0 0 Q (F0 m 34 ls []) := by
        intro n34
        induction n34 with
        | zero => exact fun x5 x7 x8 x9 x10 x11 H locs ls hl hP hD hS hf => absurd hf (by rw [lo_P_targetsOnWays_34_z]; exact fun h => by cases h)
        | succ n34 ih34 =>
          have hJ97 : ∀ (x5 : Int64) (x7 : Int32) (x8 : Int32) (x9 : Int32) (x10 : Int32) (x11 : Int32) (H : Heap) (locs : List Loc) (ls : Array Slot), lv_has ls 12 [(0, .ref oP), (1, .int a1), (3, .int a3), (4, .int a4), (5, .long x5), (7, .int x7), (8, .int x8), (9, .int x9), (10, .int x10), (11, .int x11)] → va_P (dC, dI) classes [(oP, .inr (1, [.ref osq, .ref okg, .int sd, .int rt, .int ps])), (osq, .inl (cI, 64, .inl sq)), (okg, .inl (cI, 2, .inl kg))] H → va_D A [(oP, .inr (1, [.ref osq, .ref okg, .int sd, .int rt, .int ps])), (osq, .inl (cI, 64, .inl sq)), (okg, .inl (cI, 2, .inl kg))] → va_S A s.heap H locs → bk_P_targetsOnWays_97 sd sq a1 a2 a3 a4 (lo_P_targetsOnWays_6 sd sq a1 a2 a3 a4 n6) (lo_P_targetsOnWays_34 sd sq a1 a2 a3 a4 (lo_P_targetsOnWays_6 sd sq a1 a2 a3 a4 n6) n34) x5 x7 x8 x9 x10 x11 = some rr → W p l e rm_P_targetsOnWays s m ([.ref oP, .int a1, .int a2, .int a3, .int a4] : List Value).toArray below meth c H locs 0 0 Q (F0 m 97 ls []) := by
            intro x5 x7 x8 x9 x10 x11 H locs ls hl hP hD hS hf
            rw [bk_P_targetsOnWays_97] at hf
            obtain ⟨v2001, ev2001⟩ : ∃ z, z = x11 + 1 := ⟨_, rfl⟩
            replace hf := qq_lt ev2001 hf
            refine lv_iinc (k := 9) (v := v2001) (lv' := [(11, .int v2001), (0, .ref oP), (1, .int a1), (3, .int a3), (4, .int a4), (5, .long x5), (7, .int x7), (8, .int x8), (9, .int x9), (10, .int x10)]) hx hb dd_P_targetsOnWays_97 hl rfl (by rw [ev2001]; exact congrArg _ (by decide)) (by decide) rfl (fun ls hl => ?_)
            refine lv_goto (tgt := 34) hx hb dd_P_targetsOnWays_100 (by decide) ?_
            exact ih34 x5 x7 x8 x9 x10 v2001 _ _ _ (lv_sub hl [1, 2, 3, 4, 5, 6, 7, 8, 9, 0] rfl) hP hD hS hf
          have hJ88 : ∀ (x5 : Int64) (x7 : Int32) (x8 : Int32) (x9 : Int32) (x10 : Int32) (x11 : Int32) (H : Heap) (locs : List Loc) (ls : Array Slot), lv_has ls 12 [(0, .ref oP), (1, .int a1), (3, .int a3), (4, .int a4), (5, .long x5), (7, .int x7), (8, .int x8), (9, .int x9), (10, .int x10), (11, .int x11)] → va_P (dC, dI) classes [(oP, .inr (1, [.ref osq, .ref okg, .int sd, .int rt, .int ps])), (osq, .inl (cI, 64, .inl sq)), (okg, .inl (cI, 2, .inl kg))] H → va_D A [(oP, .inr (1, [.ref osq, .ref okg, .int sd, .int rt, .int ps])), (osq, .inl (cI, 64, .inl sq)), (okg, .inl (cI, 2, .inl kg))] → va_S A s.heap H locs → bk_P_targetsOnWays_88 sd sq a1 a2 a3 a4 (lo_P_targetsOnWays_6 sd sq a1 a2 a3 a4 n6) (lo_P_targetsOnWays_34 sd sq a1 a2 a3 a4 (lo_P_targetsOnWays_6 sd sq a1 a2 a3 a4 n6) n34) x5 x7 x8 x9 x10 x11 = some rr → W p l e rm_P_targetsOnWays s m ([.ref oP, .int a1, .int a2, .int a3, .int a4] : List Value).toArray below meth c H locs 0 0 Q (F0 m 88 ls []) := by
            intro x5 x7 x8 x9 x10 x11 H locs ls hl hP hD hS hf
            rw [bk_P_targetsOnWays_88] at hf
            refine lv_lload hx hb dd_P_targetsOnWays_88 (lv_at hl 4 rfl) ?_
            refine lv_lconst (v := 1) hx hb dd_P_targetsOnWays_90 (by decide) ?_
            refine lv_iload hx hb dd_P_targetsOnWays_91 (lv_at hl 7 rfl) ?_
            refine lv_lshl (v := ((1 : Int64) <<< (x9.toInt64 &&& 63))) hx hb dd_P_targetsOnWays_93 rfl ?_
            refine lv_lor hx hb dd_P_targetsOnWays_94 ?_
            refine lv_topl (fun v3001 ev3001 => ?_)
            replace hf := qq_lt ev3001 hf
            refine lv_lstore (lv' := [(5, .long v3001), (0, .ref oP), (1, .int a1), (3, .int a3), (4, .int a4), (7, .int x7), (8, .int x8), (9, .int x9), (10, .int x10), (11, .int x11)]) hx hb dd_P_targetsOnWays_95 hl (by decide) rfl (fun ls hl => ?_)
            exact hJ97 v3001 x7 x8 x9 x10 x11 _ _ _ (lv_sub hl [1, 2, 3, 4, 0, 5, 6, 7, 8, 9] rfl) hP hD hS hf
          have hJ72 : ∀ (x5 : Int64) (x7 : Int32) (x8 : Int32) (x9 : Int32) (x11 : Int32) (s0 : Int32) (H : Heap) (locs : List Loc) (ls : Array Slot), lv_has ls 12 [(0, .ref oP), (1, .int a1), (3, .int a3), (4, .int a4), (5, .long x5), (7, .int x7), (8, .int x8), (9, .int x9), (11, .int x11)] → va_P (dC, dI) classes [(oP, .inr (1, [.ref osq, .ref okg, .int sd, .int rt, .int ps])), (osq, .inl (cI, 64, .inl sq)), (okg, .inl (cI, 2, .inl kg))] H → va_D A [(oP, .inr (1, [.ref osq, .ref okg, .int sd, .int rt, .int ps])), (osq, .inl (cI, 64, .inl sq)), (okg, .inl (cI, 2, .inl kg))] → va_S A s.heap H locs → bk_P_targetsOnWays_72 sd sq a1 a2 a3 a4 (lo_P_targetsOnWays_6 sd sq a1 a2 a3 a4 n6) (lo_P_targetsOnWays_34 sd sq a1 a2 a3 a4 (lo_P_targetsOnWays_6 sd sq a1 a2 a3 a4 n6) n34) x5 x7 x8 x9 x11 s0 = some rr → W p l e rm_P_targetsOnWays s m ([.ref oP, .int a1, .int a2, .int a3, .int a4] : List Value).toArray below meth c H locs 0 0 Q (F0 m 72 ls [.int s0]) := by
            intro x5 x7 x8 x9 x11 s0 H locs ls hl hP hD hS hf
            rw [bk_P_targetsOnWays_72] at hf
            refine lv_istore (lv' := [(10, .int s0), (0, .ref oP), (1, .int a1), (3, .int a3), (4, .int a4), (5, .long x5), (7, .int x7), (8, .int x8), (9, .int x9), (11, .int x11)]) hx hb dd_P_targetsOnWays_72 hl (by decide) rfl (fun ls hl => ?_)
            refine lv_iload hx hb dd_P_targetsOnWays_74 (lv_at hl 0 rfl) ?_
            refine lv_if_ne (tgt := 88) hx hb dd_P_targetsOnWays_76 (by decide) (fun hc => ?_) (fun hc => ?_)
            · replace hf := qq_f hc hf
              exact hJ88 x5 x7 x8 x9 s0 x11 _ _ _ (lv_sub hl [1, 2, 3, 4, 5, 6, 7, 8, 0, 9] rfl) hP hD hS hf
            · replace hf := qq_t hc hf
              refine lv_aload_n hx hb dd_P_targetsOnWays_79 rfl (lv_at hl 1 rfl) ?_
              refine lv_iload hx hb dd_P_targetsOnWays_80 (lv_at hl 8 rfl) ?_
              obtain ⟨r4001, hy4001, hf⟩ := qq_bd hf
              refine qq_V (As := [.int x9]) (rest := []) (wr := []) (wf := [(oP, .inr (1, [.ref osq, .ref okg, .int sd, .int rt, .int ps])), (osq, .inl (cI, 64, .inl sq)), (okg, .inl (cI, 2, .inl kg))]) ⟨hx, hb, hml, hown, hts⟩ (ct_P_isOther l dC dI cI cL cR oP osq okg sd rt ps sq kg x9 hy4001) mm_16 mm_17 mm_18 mm_14 mm_15 hd_P_isOther (by decide) qq_00 hP hD hK hS hA hT hN (q0 := 0) (ci := 1) rfl rfl [0, 1, 2] [] [0, 1, 2] rfl rfl rfl (by decide) rfl hl.1 rfl (Nat.le_of_ble_eq_true rfl) dd_P_targetsOnWays_82 (fun H locs hP hD hS => ?_)
              refine W.eq (g2 := F0 m 85 ls [.int r4001]) rfl ?_
              refine lv_if_eq (tgt := 97) hx hb dd_P_targetsOnWays_85 (by decide) (fun hc => ?_) (fun hc => ?_)
              · replace hf := qq_t hc hf
                exact hJ97 x5 x7 x8 x9 s0 x11 _ _ _ (lv_sub hl [1, 2, 3, 4, 5, 6, 7, 8, 0, 9] rfl) hP hD hS hf
              · replace hf := qq_f hc hf
                exact hJ88 x5 x7 x8 x9 s0 x11 _ _ _ (lv_sub hl [1, 2, 3, 4, 5, 6, 7, 8, 0, 9] rfl) hP hD hS hf
          intro x5 x7 x8 x9 x10 x11 H locs ls hl hP hD hS hf
          rw [lo_P_targetsOnWays_34_s] at hf
          refine lv_iload hx hb dd_P_targetsOnWays_34 (lv_at hl 9 rfl) ?_
          refine lv_iload hx hb dd_P_targetsOnWays_36 (lv_at hl 6 rfl) ?_
          refine lv_icmp_gt (tgt := 103) hx hb dd_P_targetsOnWays_38 (by decide) (fun hc => ?_) (fun hc => ?_)
          · replace hf := qq_t hc hf
            exact hJ103 x5 x7 _ _ _ (lv_sub hl [0, 1, 2, 3, 4, 5] rfl) hP hD hS hf
          · replace hf := qq_f hc hf
            refine lv_iload hx hb dd_P_targetsOnWays_41 (lv_at hl 8 rfl) ?_
            refine lv_if_eq (tgt := 103) hx hb dd_P_targetsOnWays_43 (by decide) (fun hc => ?_) (fun hc => ?_)
            · replace hf := qq_t hc hf
              exact hJ103 x5 x7 _ _ _ (lv_sub hl [0, 1, 2, 3, 4, 5] rfl) hP hD hS hf
            · replace hf := qq_f hc hf
              refine lv_iload hx hb dd_P_targetsOnWays_46 (lv_at hl 7 rfl) ?_
              refine va_gets (C := RR_P) (n := "WAY_STEPS") (d := "[I") (ref := RR_P) hx hb hZ_WAY_STEPS hS hown (hts _ mm_56) (fun _ h9 => h9) dd_P_targetsOnWays_48 ?_
              refine lv_iload hx hb dd_P_targetsOnWays_51 (lv_at hl 5 rfl) ?_
              obtain ⟨hi5001, hf⟩ := qq_ckE hf
              refine va_ti (v := .int (tb_WAY_STEPS x7.toNatClampNeg)) hx hb hT_WAY_STEPS hS (qq_inE hi5001) rfl dd_P_targetsOnWays_53 ?_
              refine lv_iadd hx hb dd_P_targetsOnWays_54 ?_
              refine lv_topi (fun v5002 ev5002 => ?_)
              replace hf := qq_lt ev5002 hf
              refine lv_istore (lv' := [(9, .int v5002), (0, .ref oP), (1, .int a1), (3, .int a3), (4, .int a4), (5, .long x5), (7, .int x7), (8, .int x8), (10, .int x10), (11, .int x11)]) hx hb dd_P_targetsOnWays_55 hl (by decide) rfl (fun ls hl => ?_)
              refine lv_aload_n hx hb dd_P_targetsOnWays_57 rfl (lv_at hl 1 rfl) ?_
              refine va_get (D := (dC, dI)) (ci := 1) (v := .ref osq) (C := RR_P) (T := FF_P) (N := 5) hx hb hts uu_P hown hK hP 0 rfl rfl 0 (by decide) (hts _ mm_11) (fun _ h9 => h9) rfl dd_P_targetsOnWays_58 ?_
              refine lv_iload hx hb dd_P_targetsOnWays_61 (lv_at hl 0 rfl) ?_
              obtain ⟨hi5003, hf⟩ := qq_ckE hf
              refine va_iald (D := (dC, dI)) (f := sq) (n := 64) (cA := cI) hx hb hK hP 1 0 rfl rfl (qq_inE hi5003) dd_P_targetsOnWays_63 ?_
              refine lv_if_ne (tgt := 71) hx hb dd_P_targetsOnWays_64 (by decide) (fun hc => ?_) (fun hc => ?_)
              · replace hf := qq_f hc hf
                refine lv_iconst (v := 0) hx hb dd_P_targetsOnWays_71 (by decide) ?_
                exact hJ72 x5 x7 x8 v5002 x11 0 _ _ _ (lv_sub hl [1, 2, 3, 4, 5, 6, 7, 0, 9] rfl) hP hD hS hf
              · replace hf := qq_t hc hf
                refine lv_iconst (v := 1) hx hb dd_P_targetsOnWays_67 (by decide) ?_
                refine lv_goto (tgt := 72) hx hb dd_P_targetsOnWays_68 (by decide) ?_
                exact hJ72 x5 x7 x8 v5002 x11 1 _ _ _ (lv_sub hl [1, 2, 3, 4, 5, 6, 7, 0, 9] rfl) hP hD hS hf
      intro x5 x7 H locs ls hl hP hD hS hf
      rw [lo_P_targetsOnWays_6_s] at hf
      refine lv_iload hx hb dd_P_targetsOnWays_6 (lv_at hl 5 rfl) ?_
      refine lv_iload_n hx hb dd_P_targetsOnWays_8 rfl (lv_at hl 2 rfl) ?_
      refine lv_icmp_ge (tgt := 109) hx hb dd_P_targetsOnWays_9 (by decide) (fun hc => ?_) (fun hc => ?_)
      · replace hf := qq_t hc hf
        refine lv_lload hx hb dd_P_targetsOnWays_109 (lv_at hl 4 rfl) ?_
        cases hf
        exact qq_lret hx hb hr hlocks hQ hP hD hK hS dd_P_targetsOnWays_111
      · replace hf := qq_f hc hf
        refine lv_iload hx hb dd_P_targetsOnWays_12 (lv_at hl 3 rfl) ?_
        refine lv_iload hx hb dd_P_targetsOnWays_14 (lv_at hl 5 rfl) ?_
        refine lv_iload_n hx hb dd_P_targetsOnWays_16 rfl (lv_at hl 1 rfl) ?_
        obtain ⟨r6001, hy6001, hf⟩ := qq_bd hf
        refine qq_S (As := [.int x7, .int a1]) (rest := [.int a4]) (wr := [(oP, .inr (1, [.ref osq, .ref okg, .int sd, .int rt, .int ps])), (osq, .inl (cI, 64, .inl sq)), (okg, .inl (cI, 2, .inl kg))]) (wf := [(oP, .inr (1, [.ref osq, .ref okg, .int sd, .int rt, .int ps])), (osq, .inl (cI, 64, .inl sq)), (okg, .inl (cI, 2, .inl kg))]) ⟨hx, hb, hml, hown, hts⟩ (ct_P_stepsToBorder l dC dI cI cL cR x7 a1 hy6001) mm_58 mm_59 mm_57 mm_15 hd_P_stepsToBorder (by decide) qq_00 hP hD hK hS hA hT hN [] [0, 1, 2] [0, 1, 2] rfl rfl rfl (by decide) rfl hl.1 rfl (Nat.le_of_ble_eq_true rfl) dd_P_targetsOnWays_17 (fun H locs hP hD hS => ?_)
        refine W.eq (g2 := F0 m 20 ls [.int r6001, .int a4]) rfl ?_
        refine va_mmin hx hb (hml.trans hl.1.symm) hown (hts _ mm_60) (hts _ mm_61) (hts _ mm_62) (hts _ mm_63) (by decide) (Nat.le_of_ble_eq_true rfl) (by decide) (by decide) dd_P_targetsOnWays_20 ?_
        refine lv_topi (fun v6002 ev6002 => ?_)
        replace hf := qq_lt ev6002 hf
        refine lv_istore (lv' := [(8, .int v6002), (0, .ref oP), (1, .int a1), (3, .int a3), (4, .int a4), (5, .long x5), (7, .int x7)]) hx hb dd_P_targetsOnWays_23 hl (by decide) rfl (fun ls hl => ?_)
        refine lv_iload_n hx hb dd_P_targetsOnWays_25 rfl (lv_at hl 2 rfl) ?_
        refine lv_istore (lv' := [(9, .int a1), (8, .int v6002), (0, .ref oP), (1, .int a1), (3, .int a3), (4, .int a4), (5, .long x5), (7, .int x7)]) hx hb dd_P_targetsOnWays_26 hl (by decide) rfl (fun ls hl => ?_)
        refine lv_iconst (v := 1) hx hb dd_P_targetsOnWays_28 (by decide) ?_
        refine lv_istore (lv' := [(10, .int 1), (9, .int a1), (8, .int v6002), (0, .ref oP), (1, .int a1), (3, .int a3), (4, .int a4), (5, .long x5), (7, .int x7)]) hx hb dd_P_targetsOnWays_29 hl (by decide) rfl (fun ls hl => ?_)
        refine lv_iconst (v := 1) hx hb dd_P_targetsOnWays_31 (by decide) ?_
        refine lv_istore (lv' := [(11, .int 1), (10, .int 1), (9, .int a1), (8, .int v6002), (0, .ref oP), (1, .int a1), (3, .int a3), (4, .int a4), (5, .long x5), (7, .int x7)]) hx hb dd_P_targetsOnWays_32 hl (by decide) rfl (fun ls hl => ?_)
        exact hL34 qq_FU x5 x7 v6002 a1 1 1 _ _ _ (lv_sub hl [4, 5, 6, 7, 8, 9, 3, 2, 1, 0] rfl) hP hD hS hf
  rw [fn_P_targetsOnWays] at hf
  refine lv_lconst (v := 0) hx hb dd_P_targetsOnWays_0 (by decide) ?_
  refine lv_topl (fun v1 ev1 => ?_)
  replace hf := qq_lt ev1 hf
  refine lv_lstore (lv' := [(5, .long v1), (0, .ref oP), (1, .int a1), (2, .int a2), (3, .int a3), (4, .int a4)]) hx hb dd_P_targetsOnWays_1 hl (by decide) rfl (fun ls hl => ?_)
  refine lv_iload_n hx hb dd_P_targetsOnWays_3 rfl (lv_at hl 3 rfl) ?_
  refine lv_istore (lv' := [(7, .int a2), (5, .long v1), (0, .ref oP), (1, .int a1), (2, .int a2), (3, .int a3), (4, .int a4)]) hx hb dd_P_targetsOnWays_4 hl (by decide) rfl (fun ls hl => ?_)
  exact hL6 qq_FU v1 a2 _ _ _ (lv_sub hl [2, 3, 5, 6, 1, 0] rfl) hP hD hS hf
