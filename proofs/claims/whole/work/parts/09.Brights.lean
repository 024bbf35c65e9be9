theorem dd_B_rights_0 : decode bb_B_rights 0 = .ok (.aload_n 0, 1) := by decide +kernel
theorem dd_B_rights_1 : decode bb_B_rights 1 = .ok (.getfield 44, 3) := by decide +kernel
theorem dd_B_rights_4 : decode bb_B_rights 4 = .ok (.ifCond .eq 13, 3) := by decide +kernel
theorem dd_B_rights_7 : decode bb_B_rights 7 = .ok (.aload_n 0, 1) := by decide +kernel
theorem dd_B_rights_8 : decode bb_B_rights 8 = .ok (.getfield 10, 3) := by decide +kernel
theorem dd_B_rights_11 : decode bb_B_rights 11 = .ok (.getfield 126, 3) := by decide +kernel
theorem dd_B_rights_14 : decode bb_B_rights 14 = .ok (.goto 4, 3) := by decide +kernel
theorem dd_B_rights_17 : decode bb_B_rights 17 = .ok (.iconst 0, 1) := by decide +kernel
theorem dd_B_rights_18 : decode bb_B_rights 18 = .ok (.ireturn, 1) := by decide +kernel
abbrev ty_B_rights : Type := Int32
noncomputable def bk_B_rights_18 (pl : Int32) (rt : Int32) (s0 : Int32) : Option ty_B_rights := some s0
noncomputable def fn_B_rights (pl : Int32) (rt : Int32) : Option ty_B_rights := if pl = 0 then (bk_B_rights_18 pl rt 0) else (bk_B_rights_18 pl rt rt)
abbrev rm_B_rights : Room := { frames := 0, cells := 0, slots := 0, locals := 0 }
set_option maxHeartbeats 4000000 in
set_option maxRecDepth 100000 in
theorem ct_B_rights (l : Launch) (dC : Nat → ClassId) (dI : Nat → Nat → Nat) (cI cL cR : ClassId) (oB oP osq okg oH obo oma oqt oyc oyb oW orc oS orows oR0 orc0 oR1 orc1 oR2 orc2 oR3 orc3 : Nat) (pl : Int32) (sd : Int32) (rt : Int32) (ps : Int32) (sq : Nat → Int32) (kg : Nat → Int32) (md : Int32) (bo : Nat → Int64) (ma : Nat → Int32) (qt : Nat → Int32) (yc : Nat → Int32) (yb : Nat → Int32) (rn : Int32) (rc : Nat → Int32) (rn0 : Int32) (rc0 : Nat → Int32) (rn1 : Int32) (rc1 : Nat → Int32) (rn2 : Int32) (rc2 : Nat → Int32) (rn3 : Int32) (rc3 : Nat → Int32) {rr : Int32} (hf : fn_B_rights pl rt = some rr) : qq_det l yy_B_rights (ww_of yy_B_rights bb_B_rights 1 (some .int)) rm_B_rights (dC, dI) (qq_ty cI cL cR) [.ref oB] [(oB, .inr (0, [.ref oP, .ref oH, .ref oW, .ref oS, .int pl])), (oP, .inr (1, [.ref osq, .ref okg, .int sd, .int rt, .int ps])), (osq, .inl (cI, 64, .inl sq)), (okg, .inl (cI, 2, .inl kg)), (oH, .inr (3, [.ref obo, .ref oma, .ref oqt, .ref oyc, .ref oyb, .int md])), (obo, .inl (cL, 604, .inr (.inl bo))), (oma, .inl (cI, 151, .inl ma)), (oqt, .inl (cI, 151, .inl qt)), (oyc, .inl (cI, 150, .inl yc)), (oyb, .inl (cI, 150, .inl yb)), (oW, .inr (2, [.ref orc, .int rn])), (orc, .inl (cI, 415, .inl rc)), (oS, .inr (4, [.ref orows])), (orows, .inl (cR, 4, .inr (.inr (.inr (.inr (qq_rows oR0 oR1 oR2 oR3)))))), (oR0, .inr (2, [.ref orc0, .int rn0])), (orc0, .inl (cI, 415, .inl rc0)), (oR1, .inr (2, [.ref orc1, .int rn1])), (orc1, .inl (cI, 415, .inl rc1)), (oR2, .inr (2, [.ref orc2, .int rn2])), (orc2, .inl (cI, 415, .inl rc2)), (oR3, .inr (2, [.ref orc3, .int rn3])), (orc3, .inl (cI, 415, .inl rc3))] (some (.int rr)) [(oB, .inr (0, [.ref oP, .ref oH, .ref oW, .ref oS, .int pl])), (oP, .inr (1, [.ref osq, .ref okg, .int sd, .int rt, .int ps])), (osq, .inl (cI, 64, .inl sq)), (okg, .inl (cI, 2, .inl kg)), (oH, .inr (3, [.ref obo, .ref oma, .ref oqt, .ref oyc, .ref oyb, .int md])), (obo, .inl (cL, 604, .inr (.inl bo))), (oma, .inl (cI, 151, .inl ma)), (oqt, .inl (cI, 151, .inl qt)), (oyc, .inl (cI, 150, .inl yc)), (oyb, .inl (cI, 150, .inl yb)), (oW, .inr (2, [.ref orc, .int rn])), (orc, .inl (cI, 415, .inl rc)), (oS, .inr (4, [.ref orows])), (orows, .inl (cR, 4, .inr (.inr (.inr (.inr (qq_rows oR0 oR1 oR2 oR3)))))), (oR0, .inr (2, [.ref orc0, .int rn0])), (orc0, .inl (cI, 415, .inl rc0)), (oR1, .inr (2, [.ref orc1, .int rn1])), (orc1, .inl (cI, 415, .inl rc1)), (oR2, .inr (2, [.ref orc2, .int rn2])), (orc2, .inl (cI, 415, .inl rc2)), (oR3, .inr (2, [.ref orc3, .int rn3])), (orc3, .inl (cI, 415, .inl rc3))] := by
  refine qq_of (own := RR_B) (by decide) rfl (Nat.le_of_ble_eq_true rfl) ?_
  intro p e s m below meth c A Q ls hx hb hml hr hlocks hown hts hK hA hT hN hP hD hS hl hQ
  have hl : lv_has ls 1 [(0, .ref oB)] := hl
  have hJ18 : ∀ (s0 : Int32) (H : Heap) (locs : List Loc) (ls : Array Slot), lv_has ls 1 [] → va_P (dC, dI) classes [(oB, .inr (0, [.ref oP, .ref oH, .ref oW, .ref oS, .int pl])), (oP, .inr (1, [.ref osq, .ref okg, .int sd, .int rt, .int ps])), (osq, .inl (cI, 64, .inl sq)), (okg, .inl (cI, 2, .inl kg)), (oH, .inr (3, [.ref obo, .ref oma, .ref oqt, .ref oyc, .ref oyb, .int md])), (obo, .inl (cL, 604, .inr (.inl bo))), (oma, .inl (cI, 151, .inl ma)), (oqt, .inl (cI, 151, .inl qt)), (oyc, .inl (cI, 150, .inl yc)), (oyb, .inl (cI, 150, .inl yb)), (oW, .inr (2, [.ref orc, .int rn])), (orc, .inl (cI, 415, .inl rc)), (oS, .inr (4, [.ref orows])), (orows, .inl (cR, 4, .inr (.inr (.inr (.inr (qq_rows oR0 oR1 oR2 oR3)))))), (oR0, .inr (2, [.ref orc0, .int rn0])), (orc0, .inl (cI, 415, .inl rc0)), (oR1, .inr (2, [.ref orc1, .int rn1])), (orc1, .inl (cI, 415, .inl rc1)), (oR2, .inr (2, [.ref orc2, .int rn2])), (orc2, .inl (cI, 415, .inl rc2)), (oR3, .inr (2, [.ref orc3, .int rn3])), (orc3, .inl (cI, 415, .inl rc3))] H → va_D A [(oB, .inr (0, [.ref oP, .ref oH, .ref oW, .ref oS, .int pl])), (oP, .inr (1, [.ref osq, .ref okg, .int sd, .int rt, .int ps])), (osq, .inl (cI, 64, .inl sq)), (okg, .inl (cI, 2, .inl kg)), (oH, .inr (3, [.ref obo, .ref oma, .ref oqt, .ref oyc, .ref oyb, .int md])), (obo, .inl (cL, 604, .inr (.inl bo))), (oma, .inl (cI, 151, .inl ma)), (oqt, .inl (cI, 151, .inl qt)), (oyc, .inl (cI, 150, .inl yc)), (oyb, .inl (cI, 150, .inl yb)), (oW, .inr (2, [.ref orc, .int rn])), (orc, .inl (cI, 415, .inl rc)), (oS, .inr (4, [.ref orows])), (orows, .inl (cR, 4, .inr (.inr (.inr (.inr (qq_rows oR0 oR1 oR2 oR3)))))), (oR0, .inr (2, [.ref orc0, .int rn0])), (orc0, .inl (cI, 415, .inl rc0)), (oR1, .inr (2, [.ref orc1, .int rn1])), (orc1, .inl (cI, 415, .inl rc1)), (oR2, .inr (2, [.ref orc2, .int rn2])), (orc2, .inl (cI, 415, .inl rc2)), (oR3, .inr (2, [.ref orc3, .int rn3])), (orc3, .inl (cI, 415, .inl rc3))] → va_S A s.heap H locs → bk_B_rights_18 pl rt s0 = some rr → W p l e rm_B_rights s m ([.ref oB] : List Value).toArray below meth c H locs 0 0 Q (F0 m 18 ls [.int s0]) := by
    intro s0 H locs ls hl hP hD hS hf
    rw [bk_B_rights_18] at hf
    cases hf
    exact qq_iret hx hb hr hlocks hQ hP hD hK hS dd_B_rights_18
  rw [fn_B_rights] at hf
  refine lv_aload_n hx hb dd_B_rights_0 rfl (lv_at hl 0 rfl) ?_
  refine va_get (D := (dC, dI)) (ci := 0) (v := .int pl) (C := RR_B) (T := FF_B) (N := 5) hx hb hts uu_B hown hK hP 0 rfl rfl 4 (by decide) (hts _ mm_6) (fun _ h9 => h9) rfl dd_B_rights_1 ?_
  refine lv_if_eq (tgt := 17) hx hb dd_B_rights_4 (by decide) (fun hc => ?_) (fun hc => ?_)
  · replace hf := qq_t hc hf
    refine lv_iconst (v := 0) hx hb dd_B_rights_17 (by decide) ?_
    exact hJ18 0 _ _ _ (lv_sub hl [] rfl) hP hD hS hf
  · replace hf := qq_f hc hf
    refine lv_aload_n hx hb dd_B_rights_7 rfl (lv_at hl 0 rfl) ?_
    refine va_get (D := (dC, dI)) (ci := 0) (v := .ref oP) (C := RR_B) (T := FF_B) (N := 5) hx hb hts uu_B hown hK hP 0 rfl rfl 0 (by decide) (hts _ mm_4) (fun _ h9 => h9) rfl dd_B_rights_8 ?_
    refine va_get (D := (dC, dI)) (ci := 1) (v := .int rt) (C := RR_P) (T := FF_P) (N := 5) hx hb hts uu_P hown hK hP 1 rfl rfl 3 (by decide) (hts _ mm_156) (fun _ h9 => h9) rfl dd_B_rights_11 ?_
    refine lv_goto (tgt := 18) hx hb dd_B_rights_14 (by decide) ?_
    exact hJ18 rt _ _ _ (lv_sub hl [] rfl) hP hD hS hf
theorem dd_B_side_0 : decode bb_B_side 0 = .ok (.aload_n 0, 1) := by decide +kernel
theorem dd_B_side_1 : decode bb_B_side 1 = .ok (.getfield 44, 3) := by decide +kernel
theorem dd_B_side_4 : decode bb_B_side 4 = .ok (.ifCond .eq 13, 3) := by decide +kernel
theorem dd_B_side_7 : decode bb_B_side 7 = .ok (.aload_n 0, 1) := by decide +kernel
theorem dd_B_side_8 : decode bb_B_side 8 = .ok (.getfield 10, 3) := by decide +kernel
theorem dd_B_side_11 : decode bb_B_side 11 = .ok (.getfield 123, 3) := by decide +kernel
theorem dd_B_side_14 : decode bb_B_side 14 = .ok (.goto 4, 3) := by decide +kernel
theorem dd_B_side_17 : decode bb_B_side 17 = .ok (.iconst (-1), 1) := by decide +kernel
theorem dd_B_side_18 : decode bb_B_side 18 = .ok (.ireturn, 1) := by decide +kernel
abbrev ty_B_side : Type := Int32
noncomputable def bk_B_side_18 (pl : Int32) (sd : Int32) (s0 : Int32) : Option ty_B_side := some s0
noncomputable def fn_B_side (pl : Int32) (sd : Int32) : Option ty_B_side := if pl = 0 then (bk_B_side_18 pl sd (-1)) else (bk_B_side_18 pl sd sd)
abbrev rm_B_side : Room := { frames := 0, cells := 0, slots := 0, locals := 0 }
set_option maxHeartbeats 4000000 in
set_option maxRecDepth 100000 in
theorem ct_B_side (l : Launch) (dC : Nat → ClassId) (dI : Nat → Nat → Nat) (cI cL cR : ClassId) (oB oP osq okg oH obo oma oqt oyc oyb oW orc oS orows oR0 orc0 oR1 orc1 oR2 orc2 oR3 orc3 : Nat) (pl : Int32) (sd : Int32) (rt : Int32) (ps : Int32) (sq : Nat → Int32) (kg : Nat → Int32) (md : Int32) (bo : Nat → Int64) (ma : Nat → Int32) (qt : Nat → Int32) (yc : Nat → Int32) (yb : Nat → Int32) (rn : Int32) (rc : Nat → Int32) (rn0 : Int32) (rc0 : Nat → Int32) (rn1 : Int32) (rc1 : Nat → Int32) (rn2 : Int32) (rc2 : Nat → Int32) (rn3 : Int32) (rc3 : Nat → Int32) {rr : Int32} (hf : fn_B_side pl sd = some rr) : qq_det l yy_B_side (ww_of yy_B_side bb_B_side 1 (some .int)) rm_B_side (dC, dI) (qq_ty cI cL cR) [.ref oB] [(oB, .inr (0, [.ref oP, .ref oH, .ref oW, .ref oS, .int pl])), (oP, .inr (1, [.ref osq, .ref okg, .int sd, .int rt, .int ps])), (osq, .inl (cI, 64, .inl sq)), (okg, .inl (cI, 2, .inl kg)), (oH, .inr (3, [.ref obo, .ref oma, .ref oqt, .ref oyc, .ref oyb, .int md])), (obo, .inl (cL, 604, .inr (.inl bo))), (oma, .inl (cI, 151, .inl ma)), (oqt, .inl (cI, 151, .inl qt)), (oyc, .inl (cI, 150, .inl yc)), (oyb, .inl (cI, 150, .inl yb)), (oW, .inr (2, [.ref orc, .int rn])), (orc, .inl (cI, 415, .inl rc)), (oS, .inr (4, [.ref orows])), (orows, .inl (cR, 4, .inr (.inr (.inr (.inr (qq_rows oR0 oR1 oR2 oR3)))))), (oR0, .inr (2, [.ref orc0, .int rn0])), (orc0, .inl (cI, 415, .inl rc0)), (oR1, .inr (2, [.ref orc1, .int rn1])), (orc1, .inl (cI, 415, .inl rc1)), (oR2, .inr (2, [.ref orc2, .int rn2])), (orc2, .inl (cI, 415, .inl rc2)), (oR3, .inr (2, [.ref orc3, .int rn3])), (orc3, .inl (cI, 415, .inl rc3))] (some (.int rr)) [(oB, .inr (0, [.ref oP, .ref oH, .ref oW, .ref oS, .int pl])), (oP, .inr (1, [.ref osq, .ref okg, .int sd, .int rt, .int ps])), (osq, .inl (cI, 64, .inl sq)), (okg, .inl (cI, 2, .inl kg)), (oH, .inr (3, [.ref obo, .ref oma, .ref oqt, .ref oyc, .ref oyb, .int md])), (obo, .inl (cL, 604, .inr (.inl bo))), (oma, .inl (cI, 151, .inl ma)), (oqt, .inl (cI, 151, .inl qt)), (oyc, .inl (cI, 150, .inl yc)), (oyb, .inl (cI, 150, .inl yb)), (oW, .inr (2, [.ref orc, .int rn])), (orc, .inl (cI, 415, .inl rc)), (oS, .inr (4, [.ref orows])), (orows, .inl (cR, 4, .inr (.inr (.inr (.inr (qq_rows oR0 oR1 oR2 oR3)))))), (oR0, .inr (2, [.ref orc0, .int rn0])), (orc0, .inl (cI, 415, .inl rc0)), (oR1, .inr (2, [.ref orc1, .int rn1])), (orc1, .inl (cI, 415, .inl rc1)), (oR2, .inr (2, [.ref orc2, .int rn2])), (orc2, .inl (cI, 415, .inl rc2)), (oR3, .inr (2, [.ref orc3, .int rn3])), (orc3, .inl (cI, 415, .inl rc3))] := by
  refine qq_of (own := RR_B) (by decide) rfl (Nat.le_of_ble_eq_true rfl) ?_
  intro p e s m below meth c A Q ls hx hb hml hr hlocks hown hts hK hA hT hN hP hD hS hl hQ
  have hl : lv_has ls 1 [(0, .ref oB)] := hl
  have hJ18 : ∀ (s0 : Int32) (H : Heap) (locs : List Loc) (ls : Array Slot), lv_has ls 1 [] → va_P (dC, dI) classes [(oB, .inr (0, [.ref oP, .ref oH, .ref oW, .ref oS, .int pl])), (oP, .inr (1, [.ref osq, .ref okg, .int sd, .int rt, .int ps])), (osq, .inl (cI, 64, .inl sq)), (okg, .inl (cI, 2, .inl kg)), (oH, .inr (3, [.ref obo, .ref oma, .ref oqt, .ref oyc, .ref oyb, .int md])), (obo, .inl (cL, 604, .inr (.inl bo))), (oma, .inl (cI, 151, .inl ma)), (oqt, .inl (cI, 151, .inl qt)), (oyc, .inl (cI, 150, .inl yc)), (oyb, .inl (cI, 150, .inl yb)), (oW, .inr (2, [.ref orc, .int rn])), (orc, .inl (cI, 415, .inl rc)), (oS, .inr (4, [.ref orows])), (orows, .inl (cR, 4, .inr (.inr (.inr (.inr (qq_rows oR0 oR1 oR2 oR3)))))), (oR0, .inr (2, [.ref orc0, .int rn0])), (orc0, .inl (cI, 415, .inl rc0)), (oR1, .inr (2, [.ref orc1, .int rn1])), (orc1, .inl (cI, 415, .inl rc1)), (oR2, .inr (2, [.ref orc2, .int rn2])), (orc2, .inl (cI, 415, .inl rc2)), (oR3, .inr (2, [.ref orc3, .int rn3])), (orc3, .inl (cI, 415, .inl rc3))] H → va_D A [(oB, .inr (0, [.ref oP, .ref oH, .ref oW, .ref oS, .int pl])), (oP, .inr (1, [.ref osq, .ref okg, .int sd, .int rt, .int ps])), (osq, .inl (cI, 64, .inl sq)), (okg, .inl (cI, 2, .inl kg)), (oH, .inr (3, [.ref obo, .ref oma, .ref oqt, .ref oyc, .ref oyb, .int md])), (obo, .inl (cL, 604, .inr (.inl bo))), (oma, .inl (cI, 151, .inl ma)), (oqt, .inl (cI, 151, .inl qt)), (oyc, .inl (cI, 150, .inl yc)), (oyb, .inl (cI, 150, .inl yb)), (oW, .inr (2, [.ref orc, .int rn])), (orc, .inl (cI, 415, .inl rc)), (oS, .inr (4, [.ref orows])), (orows, .inl (cR, 4, .inr (.inr (.inr (.inr (qq_rows oR0 oR1 oR2 oR3)))))), (oR0, .inr (2, [.ref orc0, .int rn0])), (orc0, .inl (cI, 415, .inl rc0)), (oR1, .inr (2, [.ref orc1, .int rn1])), (orc1, .inl (cI, 415, .inl rc1)), (oR2, .inr (2, [.ref orc2, .int rn2])), (orc2, .inl (cI, 415, .inl rc2)), (oR3, .inr (2, [.ref orc3, .int rn3])), (orc3, .inl (cI, 415, .inl rc3))] → va_S A s.heap H locs → bk_B_side_18 pl sd s0 = some rr → W p l e rm_B_side s m ([.ref oB] : List Value).toArray below meth c H locs 0 0 Q (F0 m 18 ls [.int s0]) := by
    intro s0 H locs ls hl hP hD hS hf
    rw [bk_B_side_18] at hf
    cases hf
    exact qq_iret hx hb hr hlocks hQ hP hD hK hS dd_B_side_18
  rw [fn_B_side] at hf
  refine lv_aload_n hx hb dd_B_side_0 rfl (lv_at hl 0 rfl) ?_
  refine va_get (D := (dC, dI)) (ci := 0) (v := .int pl) (C := RR_B) (T := FF_B) (N := 5) hx hb hts uu_B hown hK hP 0 rfl rfl 4 (by decide) (hts _ mm_6) (fun _ h9 => h9) rfl dd_B_side_1 ?_
  refine lv_if_eq (tgt := 17) hx hb dd_B_side_4 (by decide) (fun hc => ?_) (fun hc => ?_)
  · replace hf := qq_t hc hf
    refine lv_iconst (v := (-1)) hx hb dd_B_side_17 (by decide) ?_
    exact hJ18 (-1) _ _ _ (lv_sub hl [] rfl) hP hD hS hf
  · replace hf := qq_f hc hf
    refine lv_aload_n hx hb dd_B_side_7 rfl (lv_at hl 0 rfl) ?_
    refine va_get (D := (dC, dI)) (ci := 0) (v := .ref oP) (C := RR_B) (T := FF_B) (N := 5) hx hb hts uu_B hown hK hP 0 rfl rfl 0 (by decide) (hts _ mm_4) (fun _ h9 => h9) rfl dd_B_side_8 ?_
    refine va_get (D := (dC, dI)) (ci := 1) (v := .int sd) (C := RR_P) (T := FF_P) (N := 5) hx hb hts uu_P hown hK hP 1 rfl rfl 2 (by decide) (hts _ mm_157) (fun _ h9 => h9) rfl dd_B_side_11 ?_
    refine lv_goto (tgt := 18) hx hb dd_B_side_14 (by decide) ?_
    exact hJ18 sd _ _ _ (lv_sub hl [] rfl) hP hD hS hf
theorem dd_P_squareOf_0 : decode bb_P_squareOf 0 = .ok (.iconst 0, 1) := by decide +kernel
theorem dd_P_squareOf_1 : decode bb_P_squareOf 1 = .ok (.istore_n 2, 1) := by decide +kernel
theorem dd_P_squareOf_2 : decode bb_P_squareOf 2 = .ok (.iload_n 2, 1) := by decide +kernel
theorem dd_P_squareOf_3 : decode bb_P_squareOf 3 = .ok (.bipush 64, 2) := by decide +kernel
theorem dd_P_squareOf_5 : decode bb_P_squareOf 5 = .ok (.if_icmp .ge 21, 3) := by decide +kernel
theorem dd_P_squareOf_8 : decode bb_P_squareOf 8 = .ok (.aload_n 0, 1) := by decide +kernel
theorem dd_P_squareOf_9 : decode bb_P_squareOf 9 = .ok (.getfield 9, 3) := by decide +kernel
theorem dd_P_squareOf_12 : decode bb_P_squareOf 12 = .ok (.iload_n 2, 1) := by decide +kernel
theorem dd_P_squareOf_13 : decode bb_P_squareOf 13 = .ok (.iaload, 1) := by decide +kernel
theorem dd_P_squareOf_14 : decode bb_P_squareOf 14 = .ok (.iload_n 1, 1) := by decide +kernel
theorem dd_P_squareOf_15 : decode bb_P_squareOf 15 = .ok (.if_icmp .ne 5, 3) := by decide +kernel
theorem dd_P_squareOf_18 : decode bb_P_squareOf 18 = .ok (.iload_n 2, 1) := by decide +kernel
theorem dd_P_squareOf_19 : decode bb_P_squareOf 19 = .ok (.ireturn, 1) := by decide +kernel
theorem dd_P_squareOf_20 : decode bb_P_squareOf 20 = .ok (.iinc 2 1, 3) := by decide +kernel
theorem dd_P_squareOf_23 : decode bb_P_squareOf 23 = .ok (.goto (-21), 3) := by decide +kernel
theorem dd_P_squareOf_26 : decode bb_P_squareOf 26 = .ok (.iconst (-1), 1) := by decide +kernel
theorem dd_P_squareOf_27 : decode bb_P_squareOf 27 = .ok (.ireturn, 1) := by decide +kernel
abbrev ty_P_squareOf : Type := Int32
noncomputable def lo_P_squareOf_2 (sq : Nat → Int32) (a1 : Int32) : Nat → Int32 → Option ty_P_squareOf
  | 0, _ => none
  | n + 1, x2 => if 64 ≤ x2 then (some (-1 : Int32)) else (qq_ck (qq_in x2 64) <| if (sq x2.toNatClampNeg) = a1 then (some x2) else (qq_let (x2 + 1) fun v1002 => (lo_P_squareOf_2 sq a1 n) v1002))
theorem lo_P_squareOf_2_z (sq : Nat → Int32) (a1 : Int32) (x2 : Int32) : lo_P_squareOf_2 sq a1 0 x2 = none := rfl
theorem lo_P_squareOf_2_s (sq : Nat → Int32) (a1 : Int32) (x2 : Int32) (n : Nat) : lo_P_squareOf_2 sq a1 (n + 1) x2 = (if 64 ≤ x2 then (some (-1 : Int32)) else (qq_ck (qq_in x2 64) <| if (sq x2.toNatClampNeg) = a1 then (some x2) else (qq_let (x2 + 1) fun v1002 => (lo_P_squareOf_2 sq a1 n) v1002))) := rfl
noncomputable def fn_P_squareOf (sq : Nat → Int32) (a1 : Int32) : Option ty_P_squareOf := lo_P_squareOf_2 sq a1 qq_FU 0
abbrev rm_P_squareOf : Room := { frames := 0, cells := 0, slots := 0, locals := 0 }
set_option maxHeartbeats 4000000 in
set_option maxRecDepth 100000 in
theorem ct_P_squareOf (l : Launch) (dC : Nat → ClassId) (dI : Nat → Nat → Nat) (cI cL cR : ClassId) (oP osq okg : Nat) (sd : Int32) (rt : Int32) (ps : Int32) (sq : Nat → Int32) (kg : Nat → Int32) (a1 : Int32) {rr : Int32} (hf : fn_P_squareOf sq a1 = some rr) : qq_det l yy_P_squareOf (ww_of yy_P_squareOf bb_P_squareOf 3 (some .int)) rm_P_squareOf (dC, dI) (qq_ty cI cL cR) [.ref oP, .int a1] [(oP, .inr (1, [.ref osq, .ref okg, .int sd, .int rt, .int ps])), (osq, .inl (cI, 64, .inl sq)), (okg, .inl (cI, 2, .inl kg))] (some (.int rr)) [(oP, .inr (1, [.ref osq, .ref okg, .int sd, .int rt, .int ps])), (osq, .inl (cI, 64, .inl sq)), (okg, .inl (cI, 2, .inl kg))] := by
  refine qq_of (own := RR_P) (by decide) rfl (Nat.le_of_ble_eq_true rfl) ?_
  intro p e s m below meth c A Q ls hx hb hml hr hlocks hown hts hK hA hT hN hP hD hS hl hQ
  have hl : lv_has ls 3 [(0, .ref oP), (1, .int a1)] := hl
  have hL2 : ∀ (n2 : Nat) (x2 : Int32) (H : Heap) (locs : List Loc) (ls : Array Slot), lv_has ls 3 [(0, .ref oP), (1, .int a1), (2, .int x2)] → va_P (dC, dI) classes [(oP, .inr (1, [.ref osq, .ref okg, .int sd, .int rt, .int ps])), (osq, .inl (cI, 64, .inl sq)), (okg, .inl (cI, 2, .inl kg))] H → va_D A [(oP, .inr (1, [.ref osq, .ref okg, .int sd, .int rt, .int ps])), (osq, .inl (cI, 64, .inl sq)), (okg, .inl (cI, 2, .inl kg))] → va_S A s.heap H locs → lo_P_squareOf_2 sq a1 n2 x2 = some rr → W p l e rm_P_squareOf s m ([.ref oP, .int a1] : List Value).toArray below meth c H locs 0 0 Q (F0 m 2 ls []) := by
    intro n2
    induction n2 with
    | zero => exact fun x2 H locs ls hl hP hD hS hf => absurd hf (by rw [lo_P_squareOf_2_z]; exact fun h => by cases h)
    | succ n2 ih2 =>
      intro x2 H locs ls hl hP hD hS hf
      rw [lo_P_squareOf_2_s] at hf
      refine lv_iload_n hx hb dd_P_squareOf_2 rfl (lv_at hl 2 rfl) ?_
      refine lv_bipush (v := 64) hx hb dd_P_squareOf_3 (by decide) ?_
      refine lv_icmp_ge (tgt := 26) hx hb dd_P_squareOf_5 (by decide) (fun hc => ?_) (fun hc => ?_)
      · replace hf := qq_t hc hf
        refine lv_iconst (v := (-1)) hx hb dd_P_squareOf_26 (by decide) ?_
        cases hf
        exact qq_iret hx hb hr hlocks hQ hP hD hK hS dd_P_squareOf_27
      · replace hf := qq_f hc hf
        refine lv_aload_n hx hb dd_P_squareOf_8 rfl (lv_at hl 0 rfl) ?_
        refine va_get (D := (dC, dI)) (ci := 1) (v := .ref osq) (C := RR_P) (T := FF_P) (N := 5) hx hb hts uu_P hown hK hP 0 rfl rfl 0 (by decide) (hts _ mm_11) (fun _ h9 => h9) rfl dd_P_squareOf_9 ?_
        refine lv_iload_n hx hb dd_P_squareOf_12 rfl (lv_at hl 2 rfl) ?_
        obtain ⟨hi1001, hf⟩ := qq_ckE hf
        refine va_iald (D := (dC, dI)) (f := sq) (n := 64) (cA := cI) hx hb hK hP 1 0 rfl rfl (qq_inE hi1001) dd_P_squareOf_13 ?_
        refine lv_iload_n hx hb dd_P_squareOf_14 rfl (lv_at hl 1 rfl) ?_
        refine lv_icmp_ne (tgt := 20) hx hb dd_P_squareOf_15 (by decide) (fun hc => ?_) (fun hc => ?_)
        · replace hf := qq_f hc hf
          obtain ⟨v1002, ev1002⟩ : ∃ z, z = x2 + 1 := ⟨_, rfl⟩
          replace hf := qq_lt ev1002 hf
          refine lv_iinc (k := 2) (v := v1002) (lv' := [(2, .int v1002), (0, .ref oP), (1, .int a1)]) hx hb dd_P_squareOf_20 hl rfl (by rw [ev1002]; exact congrArg _ (by decide)) (by decide) rfl (fun ls hl => ?_)
          refine lv_goto (tgt := 2) hx hb dd_P_squareOf_23 (by decide) ?_
          exact ih2 v1002 _ _ _ (lv_sub hl [1, 2, 0] rfl) hP hD hS hf
        · replace hf := qq_t hc hf
          refine lv_iload_n hx hb dd_P_squareOf_18 rfl (lv_at hl 2 rfl) ?_
          cases hf
          exact qq_iret hx hb hr hlocks hQ hP hD hK hS dd_P_squareOf_19
  rw [fn_P_squareOf] at hf
  refine lv_iconst (v := 0) hx hb dd_P_squareOf_0 (by decide) ?_
  refine lv_istore_n (lv' := [(2, .int 0), (0, .ref oP), (1, .int a1)]) hx hb dd_P_squareOf_1 rfl hl (by decide) rfl (fun ls hl => ?_)
  exact hL2 qq_FU 0 _ _ _ (lv_sub hl [1, 2, 0] rfl) hP hD hS hf
theorem dd_H_start_0 : decode bb_H_start 0 = .ok (.aload_n 0, 1) := by decide +kernel
theorem dd_H_start_1 : decode bb_H_start 1 = .ok (.iconst 0, 1) := by decide +kernel
theorem dd_H_start_2 : decode bb_H_start 2 = .ok (.putfield 28, 3) := by decide +kernel
theorem dd_H_start_5 : decode bb_H_start 5 = .ok (.aload_n 0, 1) := by decide +kernel
theorem dd_H_start_6 : decode bb_H_start 6 = .ok (.getfield 19, 3) := by decide +kernel
theorem dd_H_start_9 : decode bb_H_start 9 = .ok (.iconst 0, 1) := by decide +kernel
theorem dd_H_start_10 : decode bb_H_start 10 = .ok (.iconst 0, 1) := by decide +kernel
theorem dd_H_start_11 : decode bb_H_start 11 = .ok (.iastore, 1) := by decide +kernel
theorem dd_H_start_12 : decode bb_H_start 12 = .ok (.return_, 1) := by decide +kernel
abbrev ty_H_start : Type := Int32 × (Nat → Int32)
noncomputable def fn_H_start (md : Int32) (qt : Nat → Int32) : Option ty_H_start := qq_ck (qq_in 0 151) <| qq_let (upd qt (0 : Int32).toNatClampNeg 0) fun qt_2 => some (0, qt_2)
abbrev rm_H_start : Room := { frames := 0, cells := 0, slots := 0, locals := 0 }
set_option maxHeartbeats 4000000 in
set_option maxRecDepth 100000 in
theorem ct_H_start (l : Launch) (dC : Nat → ClassId) (dI : Nat → Nat → Nat) (cI cL cR : ClassId) (oH obo oma oqt oyc oyb : Nat) (md : Int32) (bo : Nat → Int64) (ma : Nat → Int32) (qt : Nat → Int32) (yc : Nat → Int32) (yb : Nat → Int32) {md' : Int32} {qt' : Nat → Int32} (hf : fn_H_start md qt = some (md', qt')) : qq_det l yy_H_start (ww_of yy_H_start bb_H_start 1 none) rm_H_start (dC, dI) (qq_ty cI cL cR) [.ref oH] [(oH, .inr (3, [.ref obo, .ref oma, .ref oqt, .ref oyc, .ref oyb, .int md])), (obo, .inl (cL, 604, .inr (.inl bo))), (oma, .inl (cI, 151, .inl ma)), (oqt, .inl (cI, 151, .inl qt)), (oyc, .inl (cI, 150, .inl yc)), (oyb, .inl (cI, 150, .inl yb))] none [(oH, .inr (3, [.ref obo, .ref oma, .ref oqt, .ref oyc, .ref oyb, .int md'])), (obo, .inl (cL, 604, .inr (.inl bo))), (oma, .inl (cI, 151, .inl ma)), (oqt, .inl (cI, 151, .inl qt')), (oyc, .inl (cI, 150, .inl yc)), (oyb, .inl (cI, 150, .inl yb))] := by
  refine qq_of (own := RR_H) (by decide) rfl (Nat.le_of_ble_eq_true rfl) ?_
  intro p e s m below meth c A Q ls hx hb hml hr hlocks hown hts hK hA hT hN hP hD hS hl hQ
  have hl : lv_has ls 1 [(0, .ref oH)] := hl
  rw [fn_H_start] at hf
  refine lv_aload_n hx hb dd_H_start_0 rfl (lv_at hl 0 rfl) ?_
  refine lv_iconst (v := 0) hx hb dd_H_start_1 (by decide) ?_
  refine va_put (D := (dC, dI)) (ci := 3) (v := .int 0) (ty := .int) (C := RR_H) (T := FF_H) (N := 6) hx hb hts uu_H tt_H tt_H_ok nn_H hown hK hP hD hS 0 rfl rfl 5 (by decide) (hts _ mm_158) (fun _ h9 => h9) rfl (by decide +kernel) rfl rfl (Nat.le_of_ble_eq_true rfl) dd_H_start_2 (fun H locs hP hD hS => ?_)
  have hP : va_P (dC, dI) classes [(oH, .inr (3, [.ref obo, .ref oma, .ref oqt, .ref oyc, .ref oyb, .int 0])), (obo, .inl (cL, 604, .inr (.inl bo))), (oma, .inl (cI, 151, .inl ma)), (oqt, .inl (cI, 151, .inl qt)), (oyc, .inl (cI, 150, .inl yc)), (oyb, .inl (cI, 150, .inl yb))] H := hP
  have hD : va_D A [(oH, .inr (3, [.ref obo, .ref oma, .ref oqt, .ref oyc, .ref oyb, .int 0])), (obo, .inl (cL, 604, .inr (.inl bo))), (oma, .inl (cI, 151, .inl ma)), (oqt, .inl (cI, 151, .inl qt)), (oyc, .inl (cI, 150, .inl yc)), (oyb, .inl (cI, 150, .inl yb))] := hD
  refine lv_aload_n hx hb dd_H_start_5 rfl (lv_at hl 0 rfl) ?_
  refine va_get (D := (dC, dI)) (ci := 3) (v := .ref oqt) (C := RR_H) (T := FF_H) (N := 6) hx hb hts uu_H hown hK hP 0 rfl rfl 2 (by decide) (hts _ mm_159) (fun _ h9 => h9) rfl dd_H_start_6 ?_
  refine lv_iconst (v := 0) hx hb dd_H_start_9 (by decide) ?_
  refine lv_iconst (v := 0) hx hb dd_H_start_10 (by decide) ?_
  obtain ⟨hi1, hf⟩ := qq_ckE hf
  refine va_iast (D := (dC, dI)) (f := qt) (n := 151) (cA := cI) hx hb hK hP hD hS 3 0 rfl rfl (qq_inE hi1) dd_H_start_11 (fun H locs hP hD hS => ?_)
  obtain ⟨qt_2, eqt_2⟩ : ∃ z, z = upd qt (0 : Int32).toNatClampNeg 0 := ⟨_, rfl⟩
  replace hf := qq_lt eqt_2 hf
  have hP : va_P (dC, dI) classes [(oH, .inr (3, [.ref obo, .ref oma, .ref oqt, .ref oyc, .ref oyb, .int 0])), (obo, .inl (cL, 604, .inr (.inl bo))), (oma, .inl (cI, 151, .inl ma)), (oqt, .inl (cI, 151, .inl qt_2)), (oyc, .inl (cI, 150, .inl yc)), (oyb, .inl (cI, 150, .inl yb))] H := by rw [eqt_2]; exact hP
  have hD : va_D A [(oH, .inr (3, [.ref obo, .ref oma, .ref oqt, .ref oyc, .ref oyb, .int 0])), (obo, .inl (cL, 604, .inr (.inl bo))), (oma, .inl (cI, 151, .inl ma)), (oqt, .inl (cI, 151, .inl qt_2)), (oyc, .inl (cI, 150, .inl yc)), (oyb, .inl (cI, 150, .inl yb))] := by rw [eqt_2]; exact hD
  cases hf
  exact qq_vret hx hb hr hlocks hQ hP hD hK hS dd_H_start_12
theorem dd_P_passingMoves_0 : decode bb_P_passingMoves 0 = .ok (.aload_n 0, 1) := by decide +kernel
theorem dd_P_passingMoves_1 : decode bb_P_passingMoves 1 = .ok (.getfield 134, 3) := by decide +kernel
theorem dd_P_passingMoves_4 : decode bb_P_passingMoves 4 = .ok (.iconst (-1), 1) := by decide +kernel
theorem dd_P_passingMoves_5 : decode bb_P_passingMoves 5 = .ok (.if_icmp .ne 5, 3) := by decide +kernel
theorem dd_P_passingMoves_8 : decode bb_P_passingMoves 8 = .ok (.iconst 0, 1) := by decide +kernel
theorem dd_P_passingMoves_9 : decode bb_P_passingMoves 9 = .ok (.ireturn, 1) := by decide +kernel
theorem dd_P_passingMoves_10 : decode bb_P_passingMoves 10 = .ok (.iconst 1, 1) := by decide +kernel
theorem dd_P_passingMoves_11 : decode bb_P_passingMoves 11 = .ok (.bipush 6, 2) := by decide +kernel
theorem dd_P_passingMoves_13 : decode bb_P_passingMoves 13 = .ok (.aload_n 0, 1) := by decide +kernel
theorem dd_P_passingMoves_14 : decode bb_P_passingMoves 14 = .ok (.getfield 68, 3) := by decide +kernel
theorem dd_P_passingMoves_17 : decode bb_P_passingMoves 17 = .ok (.imul, 1) := by decide +kernel
theorem dd_P_passingMoves_18 : decode bb_P_passingMoves 18 = .ok (.iadd, 1) := by decide +kernel
theorem dd_P_passingMoves_19 : decode bb_P_passingMoves 19 = .ok (.istore_n 1, 1) := by decide +kernel
theorem dd_P_passingMoves_20 : decode bb_P_passingMoves 20 = .ok (.aload_n 0, 1) := by decide +kernel
theorem dd_P_passingMoves_21 : decode bb_P_passingMoves 21 = .ok (.getfield 134, 3) := by decide +kernel
theorem dd_P_passingMoves_24 : decode bb_P_passingMoves 24 = .ok (.bipush 8, 2) := by decide +kernel
theorem dd_P_passingMoves_26 : decode bb_P_passingMoves 26 = .ok (.aload_n 0, 1) := by decide +kernel
theorem dd_P_passingMoves_27 : decode bb_P_passingMoves 27 = .ok (.getfield 68, 3) := by decide +kernel
theorem dd_P_passingMoves_30 : decode bb_P_passingMoves 30 = .ok (.ifCond .ne 7, 3) := by decide +kernel
theorem dd_P_passingMoves_33 : decode bb_P_passingMoves 33 = .ok (.iconst 4, 1) := by decide +kernel
theorem dd_P_passingMoves_34 : decode bb_P_passingMoves 34 = .ok (.goto 4, 3) := by decide +kernel
theorem dd_P_passingMoves_37 : decode bb_P_passingMoves 37 = .ok (.iconst 3, 1) := by decide +kernel
theorem dd_P_passingMoves_38 : decode bb_P_passingMoves 38 = .ok (.imul, 1) := by decide +kernel
theorem dd_P_passingMoves_39 : decode bb_P_passingMoves 39 = .ok (.iadd, 1) := by decide +kernel
theorem dd_P_passingMoves_40 : decode bb_P_passingMoves 40 = .ok (.istore_n 2, 1) := by decide +kernel
theorem dd_P_passingMoves_41 : decode bb_P_passingMoves 41 = .ok (.aload_n 0, 1) := by decide +kernel
theorem dd_P_passingMoves_42 : decode bb_P_passingMoves 42 = .ok (.getfield 134, 3) := by decide +kernel
theorem dd_P_passingMoves_45 : decode bb_P_passingMoves 45 = .ok (.ifCond .le 37, 3) := by decide +kernel
theorem dd_P_passingMoves_48 : decode bb_P_passingMoves 48 = .ok (.aload_n 0, 1) := by decide +kernel
theorem dd_P_passingMoves_49 : decode bb_P_passingMoves 49 = .ok (.getfield 9, 3) := by decide +kernel
theorem dd_P_passingMoves_52 : decode bb_P_passingMoves 52 = .ok (.iload_n 2, 1) := by decide +kernel
theorem dd_P_passingMoves_53 : decode bb_P_passingMoves 53 = .ok (.iconst 1, 1) := by decide +kernel
theorem dd_P_passingMoves_54 : decode bb_P_passingMoves 54 = .ok (.isub, 1) := by decide +kernel
theorem dd_P_passingMoves_55 : decode bb_P_passingMoves 55 = .ok (.iaload, 1) := by decide +kernel
theorem dd_P_passingMoves_56 : decode bb_P_passingMoves 56 = .ok (.iload_n 1, 1) := by decide +kernel
theorem dd_P_passingMoves_57 : decode bb_P_passingMoves 57 = .ok (.if_icmp .ne 25, 3) := by decide +kernel
theorem dd_P_passingMoves_60 : decode bb_P_passingMoves 60 = .ok (.aload_n 0, 1) := by decide +kernel
theorem dd_P_passingMoves_61 : decode bb_P_passingMoves 61 = .ok (.iload_n 2, 1) := by decide +kernel
theorem dd_P_passingMoves_62 : decode bb_P_passingMoves 62 = .ok (.iconst 1, 1) := by decide +kernel
theorem dd_P_passingMoves_63 : decode bb_P_passingMoves 63 = .ok (.isub, 1) := by decide +kernel
theorem dd_P_passingMoves_64 : decode bb_P_passingMoves 64 = .ok (.aload_n 0, 1) := by decide +kernel
theorem dd_P_passingMoves_65 : decode bb_P_passingMoves 65 = .ok (.invokevirtual 137, 3) := by decide +kernel
theorem dd_P_passingMoves_68 : decode bb_P_passingMoves 68 = .ok (.iconst 0, 1) := by decide +kernel
theorem dd_P_passingMoves_69 : decode bb_P_passingMoves 69 = .ok (.invokestatic 104, 3) := by decide +kernel
theorem dd_P_passingMoves_72 : decode bb_P_passingMoves 72 = .ok (.invokevirtual 64, 3) := by decide +kernel
theorem dd_P_passingMoves_75 : decode bb_P_passingMoves 75 = .ok (.ifCond .eq 7, 3) := by decide +kernel
theorem dd_P_passingMoves_78 : decode bb_P_passingMoves 78 = .ok (.iconst 1, 1) := by decide +kernel
theorem dd_P_passingMoves_79 : decode bb_P_passingMoves 79 = .ok (.goto 4, 3) := by decide +kernel
theorem dd_P_passingMoves_82 : decode bb_P_passingMoves 82 = .ok (.iconst 0, 1) := by decide +kernel
theorem dd_P_passingMoves_83 : decode bb_P_passingMoves 83 = .ok (.istore_n 3, 1) := by decide +kernel
theorem dd_P_passingMoves_84 : decode bb_P_passingMoves 84 = .ok (.aload_n 0, 1) := by decide +kernel
theorem dd_P_passingMoves_85 : decode bb_P_passingMoves 85 = .ok (.getfield 134, 3) := by decide +kernel
theorem dd_P_passingMoves_88 : decode bb_P_passingMoves 88 = .ok (.bipush 7, 2) := by decide +kernel
theorem dd_P_passingMoves_90 : decode bb_P_passingMoves 90 = .ok (.if_icmp .ge 37, 3) := by decide +kernel
theorem dd_P_passingMoves_93 : decode bb_P_passingMoves 93 = .ok (.aload_n 0, 1) := by decide +kernel
theorem dd_P_passingMoves_94 : decode bb_P_passingMoves 94 = .ok (.getfield 9, 3) := by decide +kernel
theorem dd_P_passingMoves_97 : decode bb_P_passingMoves 97 = .ok (.iload_n 2, 1) := by decide +kernel
theorem dd_P_passingMoves_98 : decode bb_P_passingMoves 98 = .ok (.iconst 1, 1) := by decide +kernel
theorem dd_P_passingMoves_99 : decode bb_P_passingMoves 99 = .ok (.iadd, 1) := by decide +kernel
theorem dd_P_passingMoves_100 : decode bb_P_passingMoves 100 = .ok (.iaload, 1) := by decide +kernel
theorem dd_P_passingMoves_101 : decode bb_P_passingMoves 101 = .ok (.iload_n 1, 1) := by decide +kernel
theorem dd_P_passingMoves_102 : decode bb_P_passingMoves 102 = .ok (.if_icmp .ne 25, 3) := by decide +kernel
theorem dd_P_passingMoves_105 : decode bb_P_passingMoves 105 = .ok (.aload_n 0, 1) := by decide +kernel
theorem dd_P_passingMoves_106 : decode bb_P_passingMoves 106 = .ok (.iload_n 2, 1) := by decide +kernel
theorem dd_P_passingMoves_107 : decode bb_P_passingMoves 107 = .ok (.iconst 1, 1) := by decide +kernel
theorem dd_P_passingMoves_108 : decode bb_P_passingMoves 108 = .ok (.iadd, 1) := by decide +kernel
theorem dd_P_passingMoves_109 : decode bb_P_passingMoves 109 = .ok (.aload_n 0, 1) := by decide +kernel
theorem dd_P_passingMoves_110 : decode bb_P_passingMoves 110 = .ok (.invokevirtual 137, 3) := by decide +kernel
theorem dd_P_passingMoves_113 : decode bb_P_passingMoves 113 = .ok (.iconst 0, 1) := by decide +kernel
theorem dd_P_passingMoves_114 : decode bb_P_passingMoves 114 = .ok (.invokestatic 104, 3) := by decide +kernel
theorem dd_P_passingMoves_117 : decode bb_P_passingMoves 117 = .ok (.invokevirtual 64, 3) := by decide +kernel
theorem dd_P_passingMoves_120 : decode bb_P_passingMoves 120 = .ok (.ifCond .eq 7, 3) := by decide +kernel
theorem dd_P_passingMoves_123 : decode bb_P_passingMoves 123 = .ok (.iconst 1, 1) := by decide +kernel
theorem dd_P_passingMoves_124 : decode bb_P_passingMoves 124 = .ok (.goto 4, 3) := by decide +kernel
theorem dd_P_passingMoves_127 : decode bb_P_passingMoves 127 = .ok (.iconst 0, 1) := by decide +kernel
theorem dd_P_passingMoves_128 : decode bb_P_passingMoves 128 = .ok (.istore 4, 2) := by decide +kernel
theorem dd_P_passingMoves_130 : decode bb_P_passingMoves 130 = .ok (.iload_n 3, 1) := by decide +kernel
theorem dd_P_passingMoves_131 : decode bb_P_passingMoves 131 = .ok (.ifCond .ne 8, 3) := by decide +kernel
theorem dd_P_passingMoves_134 : decode bb_P_passingMoves 134 = .ok (.iload 4, 2) := by decide +kernel
theorem dd_P_passingMoves_136 : decode bb_P_passingMoves 136 = .ok (.ifCond .eq 33, 3) := by decide +kernel
theorem dd_P_passingMoves_139 : decode bb_P_passingMoves 139 = .ok (.iconst 4, 1) := by decide +kernel
theorem dd_P_passingMoves_140 : decode bb_P_passingMoves 140 = .ok (.aload_n 0, 1) := by decide +kernel
theorem dd_P_passingMoves_141 : decode bb_P_passingMoves 141 = .ok (.getfield 134, 3) := by decide +kernel
theorem dd_P_passingMoves_144 : decode bb_P_passingMoves 144 = .ok (.imul, 1) := by decide +kernel
theorem dd_P_passingMoves_145 : decode bb_P_passingMoves 145 = .ok (.iload_n 3, 1) := by decide +kernel
theorem dd_P_passingMoves_146 : decode bb_P_passingMoves 146 = .ok (.ifCond .eq 7, 3) := by decide +kernel
theorem dd_P_passingMoves_149 : decode bb_P_passingMoves 149 = .ok (.iconst 1, 1) := by decide +kernel
theorem dd_P_passingMoves_150 : decode bb_P_passingMoves 150 = .ok (.goto 4, 3) := by decide +kernel
theorem dd_P_passingMoves_153 : decode bb_P_passingMoves 153 = .ok (.iconst 0, 1) := by decide +kernel
theorem dd_P_passingMoves_154 : decode bb_P_passingMoves 154 = .ok (.iadd, 1) := by decide +kernel
theorem dd_P_passingMoves_155 : decode bb_P_passingMoves 155 = .ok (.iload 4, 2) := by decide +kernel
theorem dd_P_passingMoves_157 : decode bb_P_passingMoves 157 = .ok (.ifCond .eq 7, 3) := by decide +kernel
theorem dd_P_passingMoves_160 : decode bb_P_passingMoves 160 = .ok (.iconst 2, 1) := by decide +kernel
theorem dd_P_passingMoves_161 : decode bb_P_passingMoves 161 = .ok (.goto 4, 3) := by decide +kernel
theorem dd_P_passingMoves_164 : decode bb_P_passingMoves 164 = .ok (.iconst 0, 1) := by decide +kernel
theorem dd_P_passingMoves_165 : decode bb_P_passingMoves 165 = .ok (.iadd, 1) := by decide +kernel
theorem dd_P_passingMoves_166 : decode bb_P_passingMoves 166 = .ok (.goto 4, 3) := by decide +kernel
theorem dd_P_passingMoves_169 : decode bb_P_passingMoves 169 = .ok (.iconst 0, 1) := by decide +kernel
theorem dd_P_passingMoves_170 : decode bb_P_passingMoves 170 = .ok (.ireturn, 1) := by decide +kernel
abbrev ty_P_passingMoves : Type := Int32 × Int32 × Int32 × Int32 × (Nat → Int32) × (Nat → Int32)
noncomputable def bk_P_passingMoves_170 (sd : Int32) (rt : Int32) (ps : Int32) (sq : Nat → Int32) (kg : Nat → Int32) (s0 : Int32) : Option ty_P_passingMoves := some (s0, sd, rt, ps, sq, kg)
noncomputable def bk_P_passingMoves_165 (sd : Int32) (rt : Int32) (ps : Int32) (sq : Nat → Int32) (kg : Nat → Int32) (s0 : Int32) (s1 : Int32) : Option ty_P_passingMoves := bk_P_passingMoves_170 sd rt ps sq kg (s0 + s1)
noncomputable def bk_P_passingMoves_154 (sd : Int32) (rt : Int32) (ps : Int32) (sq : Nat → Int32) (kg : Nat → Int32) (x4 : Int32) (s0 : Int32) (s1 : Int32) : Option ty_P_passingMoves := if x4 = 0 then (bk_P_passingMoves_165 sd rt ps sq kg (s0 + s1) 0) else (bk_P_passingMoves_165 sd rt ps sq kg (s0 + s1) 2)
noncomputable def bk_P_passingMoves_139 (sd : Int32) (rt : Int32) (ps : Int32) (sq : Nat → Int32) (kg : Nat → Int32) (x3 : Int32) (x4 : Int32) : Option ty_P_passingMoves := if x3 = 0 then (bk_P_passingMoves_154 sd rt ps sq kg x4 (4 * ps) 0) else (bk_P_passingMoves_154 sd rt ps sq kg x4 (4 * ps) 1)
noncomputable def bk_P_passingMoves_128 (sd : Int32) (rt : Int32) (ps : Int32) (sq : Nat → Int32) (kg : Nat → Int32) (x3 : Int32) (s0 : Int32) : Option ty_P_passingMoves := if x3 = 0 then (if s0 = 0 then (bk_P_passingMoves_170 sd rt ps sq kg 0) else (bk_P_passingMoves_139 sd rt ps sq kg x3 s0)) else (bk_P_passingMoves_139 sd rt ps sq kg x3 s0)
noncomputable def bk_P_passingMoves_127 (sd : Int32) (rt : Int32) (ps : Int32) (sq : Nat → Int32) (kg : Nat → Int32) (x3 : Int32) : Option ty_P_passingMoves := bk_P_passingMoves_128 sd rt ps sq kg x3 0
noncomputable def bk_P_passingMoves_83 (sd : Int32) (rt : Int32) (ps : Int32) (sq : Nat → Int32) (kg : Nat → Int32) (x1 : Int32) (x2 : Int32) (s0 : Int32) : Option ty_P_passingMoves := if 7 ≤ ps then (bk_P_passingMoves_127 sd rt ps sq kg s0) else (qq_ck (qq_in (x2 + 1) 64) <| if (sq (x2 + 1).toNatClampNeg) = x1 then ((fn_P_passingTarget sd ps).bind fun r7002 => (fn_B_codeOf (x2 + 1) r7002 0).bind fun r7003 => (fn_P_keepsKingSafe sd rt ps sq kg r7003).bind fun (r7004, sd_7005, rt_7006, ps_7007, sq_7008, kg_7009) => if r7004 = 0 then (bk_P_passingMoves_127 sd_7005 rt_7006 ps_7007 sq_7008 kg_7009 s0) else (bk_P_passingMoves_128 sd_7005 rt_7006 ps_7007 sq_7008 kg_7009 s0 1)) else (bk_P_passingMoves_127 sd rt ps sq kg s0))
noncomputable def bk_P_passingMoves_82 (sd : Int32) (rt : Int32) (ps : Int32) (sq : Nat → Int32) (kg : Nat → Int32) (x1 : Int32) (x2 : Int32) : Option ty_P_passingMoves := bk_P_passingMoves_83 sd rt ps sq kg x1 x2 0
noncomputable def bk_P_passingMoves_38 (sd : Int32) (rt : Int32) (ps : Int32) (sq : Nat → Int32) (kg : Nat → Int32) (x1 : Int32) (s0 : Int32) (s1 : Int32) (s2 : Int32) : Option ty_P_passingMoves := qq_let (s0 + (s1 * s2)) fun v9001 => if ps ≤ 0 then (bk_P_passingMoves_82 sd rt ps sq kg x1 v9001) else (qq_ck (qq_in (v9001 - 1) 64) <| if (sq (v9001 - 1).toNatClampNeg) = x1 then ((fn_P_passingTarget sd ps).bind fun r9003 => (fn_B_codeOf (v9001 - 1) r9003 0).bind fun r9004 => (fn_P_keepsKingSafe sd rt ps sq kg r9004).bind fun (r9005, sd_9006, rt_9007, ps_9008, sq_9009, kg_9010) => if r9005 = 0 then (bk_P_passingMoves_82 sd_9006 rt_9007 ps_9008 sq_9009 kg_9010 x1 v9001) else (bk_P_passingMoves_83 sd_9006 rt_9007 ps_9008 sq_9009 kg_9010 x1 v9001 1)) else (bk_P_passingMoves_82 sd rt ps sq kg x1 v9001))
noncomputable def fn_P_passingMoves (sd : Int32) (rt : Int32) (ps : Int32) (sq : Nat → Int32) (kg : Nat → Int32) : Option ty_P_passingMoves := if ps = (-1) then (some (0, sd, rt, ps, sq, kg)) else (qq_let (1 + (6 * sd)) fun v1 => if sd = 0 then (bk_P_passingMoves_38 sd rt ps sq kg v1 ps 8 4) else (bk_P_passingMoves_38 sd rt ps sq kg v1 ps 8 3))
abbrev rm_P_passingMoves : Room := { frames := 4, cells := 0, slots := 0, locals := 93 }
set_option maxHeartbeats 4000000 in
set_option maxRecDepth 100000 in
theorem ct_P_passingMoves (l : Launch) (dC : Nat → ClassId) (dI : Nat → Nat → Nat) (cI cL cR : ClassId) (oP osq okg : Nat) (sd : Int32) (rt : Int32) (ps : Int32) (sq : Nat → Int32) (kg : Nat → Int32) {rr : Int32} {sd' : Int32} {rt' : Int32} {ps' : Int32} {sq' : Nat → Int32} {kg' : Nat → Int32} (hf : fn_P_passingMoves sd rt ps sq kg = some (rr, sd', rt', ps', sq', kg')) : qq_det l yy_P_passingMoves (ww_of yy_P_passingMoves bb_P_passingMoves 5 (some .int)) rm_P_passingMoves (dC, dI) (qq_ty cI cL cR) [.ref oP] [(oP, .inr (1, [.ref osq, .ref okg, .int sd, .int rt, .int ps])), (osq, .inl (cI, 64, .inl sq)), (okg, .inl (cI, 2, .inl kg))] (some (.int rr)) [(oP, .inr (1, [.ref osq, .ref okg, .int sd', .int rt', .int ps'])), (osq, .inl (cI, 64, .inl sq')), (okg, .inl (cI, 2, .inl kg'))] := by
  refine qq_of (own := RR_P) (by decide) rfl (Nat.le_of_ble_eq_true rfl) ?_
  intro p e s m below meth c A Q ls hx hb hml hr hlocks hown hts hK hA hT hN hP hD hS hl hQ
  have hl : lv_has ls 5 [(0, .ref oP)] := hl
  have hJ170 : ∀ (sd : Int32) (rt : Int32) (ps : Int32) (sq : Nat → Int32) (kg : Nat → Int32) (s0 : Int32) (H : Heap) (locs : List Loc) (ls : Array Slot), lv_has ls 5 [] → va_P (dC, dI) classes [(oP, .inr (1, [.ref osq, .ref okg, .int sd, .int rt, .int ps])), (osq, .inl (cI, 64, .inl sq)), (okg, .inl (cI, 2, .inl kg))] H → va_D A [(oP, .inr (1, [.ref osq, .ref okg, .int sd, .int rt, .int ps])), (osq, .inl (cI, 64, .inl sq)), (okg, .inl (cI, 2, .inl kg))] → va_S A s.heap H locs → bk_P_passingMoves_170 sd rt ps sq kg s0 = some (rr, sd', rt', ps', sq', kg') → W p l e rm_P_passingMoves s m ([.ref oP] : List Value).toArray below meth c H locs 0 0 Q (F0 m 170 ls [.int s0]) := by
    intro sd rt ps sq kg s0 H locs ls hl hP hD hS hf
    rw [bk_P_passingMoves_170] at hf
    cases hf
    exact qq_iret hx hb hr hlocks hQ hP hD hK hS dd_P_passingMoves_170
  have hJ165 : ∀ (sd : Int32) (rt : Int32) (ps : Int32) (sq : Nat → Int32) (kg : Nat → Int32) (s0 : Int32) (s1 : Int32) (H : Heap) (locs : List Loc) (ls : Array Slot), lv_has ls 5 [] → va_P (dC, dI) classes [(oP, .inr (1, [.ref osq, .ref okg, .int sd, .int rt, .int ps])), (osq, .inl (cI, 64, .inl sq)), (okg, .inl (cI, 2, .inl kg))] H → va_D A [(oP, .inr (1, [.ref osq, .ref okg, .int sd, .int rt, .int ps])), (osq, .inl (cI, 64, .inl sq)), (okg, .inl (cI, 2, .inl kg))] → va_S A s.heap H locs → bk_P_passingMoves_165 sd rt ps sq kg s0 s1 = some (rr, sd', rt', ps', sq', kg') → W p l e rm_P_passingMoves s m ([.ref oP] : List Value).toArray below meth c H locs 0 0 Q (F0 m 165 ls [.int s1, .int s0]) := by
    intro sd rt ps sq kg s0 s1 H locs ls hl hP hD hS hf
    rw [bk_P_passingMoves_165] at hf
    refine lv_iadd hx hb dd_P_passingMoves_165 ?_
    refine lv_goto (tgt := 170) hx hb dd_P_passingMoves_166 (by decide) ?_
    exact hJ170 sd rt ps sq kg (s0 + s1) _ _ _ (lv_sub hl [] rfl) hP hD hS hf
  have hJ154 : ∀ (sd : Int32) (rt : Int32) (ps : Int32) (sq : Nat → Int32) (kg : Nat → Int32) (x4 : Int32) (s0 : Int32) (s1 : Int32) (H : Heap) (locs : List Loc) (ls : Array Slot), lv_has ls 5 [(4, .int x4)] → va_P (dC, dI) classes [(oP, .inr (1, [.ref osq, .ref okg, .int sd, .int rt, .int ps])), (osq, .inl (cI, 64, .inl sq)), (okg, .inl (cI, 2, .inl kg))] H → va_D A [(oP, .inr (1, [.ref osq, .ref okg, .int sd, .int rt, .int ps])), (osq, .inl (cI, 64, .inl sq)), (okg, .inl (cI, 2, .inl kg))] → va_S A s.heap H locs → bk_P_passingMoves_154 sd rt ps sq kg x4 s0 s1 = some (rr, sd', rt', ps', sq', kg') → W p l e rm_P_passingMoves s m ([.ref oP] : List Value).toArray below meth c H locs 0 0 Q (F0 m 154 ls [.int s1, .int s0]) := by
    intro sd rt ps sq kg x4 s0 s1 H locs ls hl hP hD hS hf
    rw [bk_P_passingMoves_154] at hf
    refine lv_iadd hx hb dd_P_passingMoves_154 ?_
    refine lv_iload hx hb dd_P_passingMoves_155 (lv_at hl 0 rfl) ?_
    refine lv_if_eq (tgt := 164) hx hb dd_P_passingMoves_157 (by decide) (fun hc => ?_) (fun hc => ?_)
    · replace hf := qq_t hc hf
      refine lv_iconst (v := 0) hx hb dd_P_passingMoves_164 (by decide) ?_
      exact hJ165 sd rt ps sq kg (s0 + s1) 0 _ _ _ (lv_sub hl [] rfl) hP hD hS hf
    · replace hf := qq_f hc hf
      refine lv_iconst (v := 2) hx hb dd_P_passingMoves_160 (by decide) ?_
      refine lv_goto (tgt := 165) hx hb dd_P_passingMoves_161 (by decide) ?_
      exact hJ165 sd rt ps sq kg (s0 + s1) 2 _ _ _ (lv_sub hl [] rfl) hP hD hS hf
  have hJ139 : ∀ (sd : Int32) (rt : Int32) (ps : Int32) (sq : Nat → Int32) (kg : Nat → Int32) (x3 : Int32) (x4 : Int32) (H : Heap) (locs : List Loc) (ls : Array Slot), lv_has ls 5 [(0, .ref oP), (3, .int x3), (4, .int x4)] → va_P (dC, dI) classes [(oP, .inr (1, [.ref osq, .ref okg, .int sd, .int rt, .int ps])), (osq, .inl (cI, 64, .inl sq)), (okg, .inl (cI, 2, .inl kg))] H → va_D A [(oP, .inr (1, [.ref osq, .ref okg, .int sd, .int rt, .int ps])), (osq, .inl (cI, 64, .inl sq)), (okg, .inl (cI, 2, .inl kg))] → va_S A s.heap H locs → bk_P_passingMoves_139 sd rt ps sq kg x3 x4 = some (rr, sd', rt', ps', sq', kg') → W p l e rm_P_passingMoves s m ([.ref oP] : List Value).toArray below meth c H locs 0 0 Q (F0 m 139 ls []) := by
    intro sd rt ps sq kg x3 x4 H locs ls hl hP hD hS hf
    rw [bk_P_passingMoves_139] at hf
    refine lv_iconst (v := 4) hx hb dd_P_passingMoves_139 (by decide) ?_
    refine lv_aload_n hx hb dd_P_passingMoves_140 rfl (lv_at hl 0 rfl) ?_
    refine va_get (D := (dC, dI)) (ci := 1) (v := .int ps) (C := RR_P) (T := FF_P) (N := 5) hx hb hts uu_P hown hK hP 0 rfl rfl 4 (by decide) (hts _ mm_13) (fun _ h9 => h9) rfl dd_P_passingMoves_141 ?_
    refine lv_imul hx hb dd_P_passingMoves_144 ?_
    refine lv_iload_n hx hb dd_P_passingMoves_145 rfl (lv_at hl 1 rfl) ?_
    refine lv_if_eq (tgt := 153) hx hb dd_P_passingMoves_146 (by decide) (fun hc => ?_) (fun hc => ?_)
    · replace hf := qq_t hc hf
      refine lv_iconst (v := 0) hx hb dd_P_passingMoves_153 (by decide) ?_
      exact hJ154 sd rt ps sq kg x4 (4 * ps) 0 _ _ _ (lv_sub hl [2] rfl) hP hD hS hf
    · replace hf := qq_f hc hf
      refine lv_iconst (v := 1) hx hb dd_P_passingMoves_149 (by decide) ?_
      refine lv_goto (tgt := 154) hx hb dd_P_passingMoves_150 (by decide) ?_
      exact hJ154 sd rt ps sq kg x4 (4 * ps) 1 _ _ _ (lv_sub hl [2] rfl) hP hD hS hf
  have hJ128 : ∀ (sd : Int32) (rt : Int32) (ps : Int32) (sq : Nat → Int32) (kg : Nat → Int32) (x3 : Int32) (s0 : Int32) (H : Heap) (locs : List Loc) (ls : Array Slot), lv_has ls 5 [(0, .ref oP), (3, .int x3)] → va_P (dC, dI) classes [(oP, .inr (1, [.ref osq, .ref okg, .int sd, .int rt, .int ps])), (osq, .inl (cI, 64, .inl sq)), (okg, .inl (cI, 2, .inl kg))] H → va_D A [(oP, .inr (1, [.ref osq, .ref okg, .int sd, .int rt, .int ps])), (osq, .inl (cI, 64, .inl sq)), (okg, .inl (cI, 2, .inl kg))] → va_S A s.heap H locs → bk_P_passingMoves_128 sd rt ps sq kg x3 s0 = some (rr, sd', rt', ps', sq', kg') → W p l e rm_P_passingMoves s m ([.ref oP] : List Value).toArray below meth c H locs 0 0 Q (F0 m 128 ls [.int s0]) := by
    intro sd rt ps sq kg x3 s0 H locs ls hl hP hD hS hf
    rw [bk_P_passingMoves_128] at hf
    refine lv_istore (lv' := [(4, .int s0), (0, .ref oP), (3, .int x3)]) hx hb dd_P_passingMoves_128 hl (by decide) rfl (fun ls hl => ?_)
    refine lv_iload_n hx hb dd_P_passingMoves_130 rfl (lv_at hl 2 rfl) ?_
    refine lv_if_ne (tgt := 139) hx hb dd_P_passingMoves_131 (by decide) (fun hc => ?_) (fun hc => ?_)
    · replace hf := qq_f hc hf
      exact hJ139 sd rt ps sq kg x3 s0 _ _ _ (lv_sub hl [1, 2, 0] rfl) hP hD hS hf
    · replace hf := qq_t hc hf
      refine lv_iload hx hb dd_P_passingMoves_134 (lv_at hl 0 rfl) ?_
      refine lv_if_eq (tgt := 169) hx hb dd_P_passingMoves_136 (by decide) (fun hc => ?_) (fun hc => ?_)
      · replace hf := qq_t hc hf
        refine lv_iconst (v := 0) hx hb dd_P_passingMoves_169 (by decide) ?_
        exact hJ170 sd rt ps sq kg 0 _ _ _ (lv_sub hl [] rfl) hP hD hS hf
      · replace hf := qq_f hc hf
        exact hJ139 sd rt ps sq kg x3 s0 _ _ _ (lv_sub hl [1, 2, 0] rfl) hP hD hS hf
  have hJ127 : ∀ (sd : Int32) (rt : Int32) (ps : Int32) (sq : Nat → Int32) (kg : Nat → Int32) (x3 : Int32) (H : Heap) (locs : List Loc) (ls : Array Slot), lv_has ls 5 [(0, .ref oP), (3, .int x3)] → va_P (dC, dI) classes [(oP, .inr (1, [.ref osq, .ref okg, .int sd, .int rt, .int ps])), (osq, .inl (cI, 64, .inl sq)), (okg, .inl (cI, 2, .inl kg))] H → va_D A [(oP, .inr (1, [.ref osq, .ref okg, .int sd, .int rt, .int ps])), (osq, .inl (cI, 64, .inl sq)), (okg, .inl (cI, 2, .inl kg))] → va_S A s.heap H locs → bk_P_passingMoves_127 sd rt ps sq kg x3 = some (rr, sd', rt', ps', sq', kg') → W p l e rm_P_passingMoves s m ([.ref oP] : List Value).toArray below meth c H locs 0 0 Q (F0 m 127 ls []) := by
    intro sd rt ps sq kg x3 H locs ls hl hP hD hS hf
    rw [bk_P_passingMoves_127] at hf
    refine lv_iconst (v := 0) hx hb dd_P_passingMoves_127 (by decide) ?_
    exact hJ128 sd rt ps sq kg x3 0 _ _ _ (lv_sub hl [0, 1] rfl) hP hD hS hf
  have hJ83 : ∀ (sd : Int32) (rt : Int32) (ps : Int32) (sq : Nat → Int32) (kg : Nat → Int32) (x1 : Int32) (x2 : Int32) (s0 : Int32) (H : Heap) (locs : List Loc) (ls : Array Slot), lv_has ls 5 [(0, .ref oP), (1, .int x1), (2, .int x2)] → va_P (dC, dI) classes [(oP, .inr (1, [.ref osq, .ref okg, .int sd, .int rt, .int ps])), (osq, .inl (cI, 64, .inl sq)), (okg, .inl (cI, 2, .inl kg))] H → va_D A [(oP, .inr (1, [.ref osq, .ref okg, .int sd, .int rt, .int ps])), (osq, .inl (cI, 64, .inl sq)), (okg, .inl (cI, 2, .inl kg))] → va_S A s.heap H locs → bk_P_passingMoves_83 sd rt ps sq kg x1 x2 s0 = some (rr, sd', rt', ps', sq', kg') → W p l e rm_P_passingMoves s m ([.ref oP] : List Value).toArray below meth c H locs 0 0 Q (F0 m 83 ls [.int s0]) := by
    intro sd rt ps sq kg x1 x2 s0 H locs ls hl hP hD hS hf
    rw [bk_P_passingMoves_83] at hf
    refine lv_istore_n (lv' := [(3, .int s0), (0, .ref oP), (1, .int x1), (2, .int x2)]) hx hb dd_P_passingMoves_83 rfl hl (by decide) rfl (fun ls hl => ?_)
    refine lv_aload_n hx hb dd_P_passingMoves_84 rfl (lv_at hl 1 rfl) ?_
    refine va_get (D := (dC, dI)) (ci := 1) (v := .int ps) (C := RR_P) (T := FF_P) (N := 5) hx hb hts uu_P hown hK hP 0 rfl rfl 4 (by decide) (hts _ mm_13) (fun _ h9 => h9) rfl dd_P_passingMoves_85 ?_
    refine lv_bipush (v := 7) hx hb dd_P_passingMoves_88 (by decide) ?_
    refine lv_icmp_ge (tgt := 127) hx hb dd_P_passingMoves_90 (by decide) (fun hc => ?_) (fun hc => ?_)
    · replace hf := qq_t hc hf
      exact hJ127 sd rt ps sq kg s0 _ _ _ (lv_sub hl [1, 0] rfl) hP hD hS hf
    · replace hf := qq_f hc hf
      refine lv_aload_n hx hb dd_P_passingMoves_93 rfl (lv_at hl 1 rfl) ?_
      refine va_get (D := (dC, dI)) (ci := 1) (v := .ref osq) (C := RR_P) (T := FF_P) (N := 5) hx hb hts uu_P hown hK hP 0 rfl rfl 0 (by decide) (hts _ mm_11) (fun _ h9 => h9) rfl dd_P_passingMoves_94 ?_
      refine lv_iload_n hx hb dd_P_passingMoves_97 rfl (lv_at hl 3 rfl) ?_
      refine lv_iconst (v := 1) hx hb dd_P_passingMoves_98 (by decide) ?_
      refine lv_iadd hx hb dd_P_passingMoves_99 ?_
      obtain ⟨hi7001, hf⟩ := qq_ckE hf
      refine va_iald (D := (dC, dI)) (f := sq) (n := 64) (cA := cI) hx hb hK hP 1 0 rfl rfl (qq_inE hi7001) dd_P_passingMoves_100 ?_
      refine lv_iload_n hx hb dd_P_passingMoves_101 rfl (lv_at hl 2 rfl) ?_
      refine lv_icmp_ne (tgt := 127) hx hb dd_P_passingMoves_102 (by decide) (fun hc => ?_) (fun hc => ?_)
      · replace hf := qq_f hc hf
        exact hJ127 sd rt ps sq kg s0 _ _ _ (lv_sub hl [1, 0] rfl) hP hD hS hf
      · replace hf := qq_t hc hf
        refine lv_aload_n hx hb dd_P_passingMoves_105 rfl (lv_at hl 1 rfl) ?_
        refine lv_iload_n hx hb dd_P_passingMoves_106 rfl (lv_at hl 3 rfl) ?_
        refine lv_iconst (v := 1) hx hb dd_P_passingMoves_107 (by decide) ?_
        refine lv_iadd hx hb dd_P_passingMoves_108 ?_
        refine lv_aload_n hx hb dd_P_passingMoves_109 rfl (lv_at hl 1 rfl) ?_
        obtain ⟨r7002, hy7002, hf⟩ := qq_bd hf
        refine qq_V (As := []) (rest := [.int (x2 + 1), .ref oP]) (wr := []) (wf := [(oP, .inr (1, [.ref osq, .ref okg, .int sd, .int rt, .int ps])), (osq, .inl (cI, 64, .inl sq)), (okg, .inl (cI, 2, .inl kg))]) ⟨hx, hb, hml, hown, hts⟩ (ct_P_passingTarget l dC dI cI cL cR oP osq okg sd rt ps sq kg hy7002) mm_20 mm_21 mm_22 mm_19 mm_15 hd_P_passingTarget (by decide) qq_00 hP hD hK hS hA hT hN (q0 := 0) (ci := 1) rfl rfl [0, 1, 2] [] [0, 1, 2] rfl rfl rfl (by decide) rfl hl.1 rfl (Nat.le_of_ble_eq_true rfl) dd_P_passingMoves_110 (fun H locs hP hD hS => ?_)
        refine W.eq (g2 := F0 m 113 ls [.int r7002, .int (x2 + 1), .ref oP]) rfl ?_
        refine lv_iconst (v := 0) hx hb dd_P_passingMoves_113 (by decide) ?_
        obtain ⟨r7003, hy7003, hf⟩ := qq_bd hf
        refine qq_SN (As := [.int (x2 + 1), .int r7002, .int 0]) (rest := [.ref oP]) (wr := [(oP, .inr (1, [.ref osq, .ref okg, .int sd, .int rt, .int ps])), (osq, .inl (cI, 64, .inl sq)), (okg, .inl (cI, 2, .inl kg))]) (wf := [(oP, .inr (1, [.ref osq, .ref okg, .int sd, .int rt, .int ps])), (osq, .inl (cI, 64, .inl sq)), (okg, .inl (cI, 2, .inl kg))]) ⟨hx, hb, hml, hown, hts⟩ (ct_B_codeOf l dC dI cI cL cR (x2 + 1) r7002 0 hy7003) (hN.1 _ nm_0) mm_40 mm_39 mm_1 hd_B_codeOf (by decide) qq_00 hP hD hK hS hA hT hN [] [0, 1, 2] [0, 1, 2] rfl rfl rfl (by decide) rfl hl.1 rfl (Nat.le_of_ble_eq_true rfl) dd_P_passingMoves_114 (fun H locs hP hD hS => ?_)
        refine W.eq (g2 := F0 m 117 ls [.int r7003, .ref oP]) rfl ?_
        obtain ⟨⟨r7004, sd_7005, rt_7006, ps_7007, sq_7008, kg_7009⟩, hy7009, hf⟩ := qq_bd hf
        dsimp only at hf
        refine qq_V (As := [.int r7003]) (rest := []) (wr := []) (wf := [(oP, .inr (1, [.ref osq, .ref okg, .int sd_7005, .int rt_7006, .int ps_7007])), (osq, .inl (cI, 64, .inl sq_7008)), (okg, .inl (cI, 2, .inl kg_7009))]) ⟨hx, hb, hml, hown, hts⟩ (ct_P_keepsKingSafe l dC dI cI cL cR oP osq okg sd rt ps sq kg r7003 hy7009) mm_136 mm_137 mm_138 mm_135 mm_15 hd_P_keepsKingSafe (by decide) qq_00 hP hD hK hS hA hT hN (q0 := 0) (ci := 1) rfl rfl [0, 1, 2] [] [0, 1, 2] rfl rfl rfl (by decide) rfl hl.1 rfl (Nat.le_of_ble_eq_true rfl) dd_P_passingMoves_117 (fun H locs hP hD hS => ?_)
        refine W.eq (g2 := F0 m 120 ls [.int r7004]) rfl ?_
        refine lv_if_eq (tgt := 127) hx hb dd_P_passingMoves_120 (by decide) (fun hc => ?_) (fun hc => ?_)
        · replace hf := qq_t hc hf
          exact hJ127 sd_7005 rt_7006 ps_7007 sq_7008 kg_7009 s0 _ _ _ (lv_sub hl [1, 0] rfl) hP hD hS hf
        · replace hf := qq_f hc hf
          refine lv_iconst (v := 1) hx hb dd_P_passingMoves_123 (by decide) ?_
          refine lv_goto (tgt := 128) hx hb dd_P_passingMoves_124 (by decide) ?_
          exact hJ128 sd_7005 rt_7006 ps_7007 sq_7008 kg_7009 s0 1 _ _ _ (lv_sub hl [1, 0] rfl) hP hD hS hf
  have hJ82 : ∀ (sd : Int32) (rt : Int32) (ps : Int32) (sq : Nat → Int32) (kg : Nat → Int32) (x1 : Int32) (x2 : Int32) (H : Heap) (locs : List Loc) (ls : Array Slot), lv_has ls 5 [(0, .ref oP), (1, .int x1), (2, .int x2)] → va_P (dC, dI) classes [(oP, .inr (1, [.ref osq, .ref okg, .int sd, .int rt, .int ps])), (osq, .inl (cI, 64, .inl sq)), (okg, .inl (cI, 2, .inl kg))] H → va_D A [(oP, .inr (1, [.ref osq, .ref okg, .int sd, .int rt, .int ps])), (osq, .inl (cI, 64, .inl sq)), (okg, .inl (cI, 2, .inl kg))] → va_S A s.heap H locs → bk_P_passingMoves_82 sd rt ps sq kg x1 x2 = some (rr, sd', rt', ps', sq', kg') → W p l e rm_P_passingMoves s m ([.ref oP] : List Value).toArray below meth c H locs 0 0 Q (F0 m 82 ls []) := by
    intro sd rt ps sq kg x1 x2 H locs ls hl hP hD hS hf
    rw [bk_P_passingMoves_82] at hf
    refine lv_iconst (v := 0) hx hb dd_P_passingMoves_82 (by decide) ?_
    exact hJ83 sd rt ps sq kg x1 x2 0 _ _ _ (lv_sub hl [0, 1, 2] rfl) hP hD hS hf
  have hJ38 : ∀ (sd : Int32) (rt : Int32) (ps : Int32) (sq : Nat → Int32) (kg : Nat → Int32) (x1 : Int32) (s0 : Int32) (s1 : Int32) (s2 : Int32) (H : Heap) (locs : List Loc) (ls : Array Slot), lv_has ls 5 [(0, .ref oP), (1, .int x1)] → va_P (dC, dI) classes [(oP, .inr (1, [.ref osq, .ref okg, .int sd, .int rt, .int ps])), (osq, .inl (cI, 64, .inl sq)), (okg, .inl (cI, 2, .inl kg))] H → va_D A [(oP, .inr (1, [.ref osq, .ref okg, .int sd, .int rt, .int ps])), (osq, .inl (cI, 64, .inl sq)), (okg, .inl (cI, 2, .inl kg))] → va_S A s.heap H locs → bk_P_passingMoves_38 sd rt ps sq kg x1 s0 s1 s2 = some (rr, sd', rt', ps', sq', kg') → W p l e rm_P_passingMoves s m ([.ref oP] : List Value).toArray below meth c H locs 0 0 Q (F0 m 38 ls [.int s2, .int s1, .int s0]) := by
    intro sd rt ps sq kg x1 s0 s1 s2 H locs ls hl hP hD hS hf
    rw [bk_P_passingMoves_38] at hf
    refine lv_imul hx hb dd_P_passingMoves_38 ?_
    refine lv_iadd hx hb dd_P_passingMoves_39 ?_
    refine lv_topi (fun v9001 ev9001 => ?_)
    replace hf := qq_lt ev9001 hf
    refine lv_istore_n (lv' := [(2, .int v9001), (0, .ref oP), (1, .int x1)]) hx hb dd_P_passingMoves_40 rfl hl (by decide) rfl (fun ls hl => ?_)
    refine lv_aload_n hx hb dd_P_passingMoves_41 rfl (lv_at hl 1 rfl) ?_
    refine va_get (D := (dC, dI)) (ci := 1) (v := .int ps) (C := RR_P) (T := FF_P) (N := 5) hx hb hts uu_P hown hK hP 0 rfl rfl 4 (by decide) (hts _ mm_13) (fun _ h9 => h9) rfl dd_P_passingMoves_42 ?_
    refine lv_if_le (tgt := 82) hx hb dd_P_passingMoves_45 (by decide) (fun hc => ?_) (fun hc => ?_)
    · replace hf := qq_t hc hf
      exact hJ82 sd rt ps sq kg x1 v9001 _ _ _ (lv_sub hl [1, 2, 0] rfl) hP hD hS hf
    · replace hf := qq_f hc hf
      refine lv_aload_n hx hb dd_P_passingMoves_48 rfl (lv_at hl 1 rfl) ?_
      refine va_get (D := (dC, dI)) (ci := 1) (v := .ref osq) (C := RR_P) (T := FF_P) (N := 5) hx hb hts uu_P hown hK hP 0 rfl rfl 0 (by decide) (hts _ mm_11) (fun _ h9 => h9) rfl dd_P_passingMoves_49 ?_
      refine lv_iload_n hx hb dd_P_passingMoves_52 rfl (lv_at hl 0 rfl) ?_
      refine lv_iconst (v := 1) hx hb dd_P_passingMoves_53 (by decide) ?_
      refine lv_isub hx hb dd_P_passingMoves_54 ?_
      obtain ⟨hi9002, hf⟩ := qq_ckE hf
      refine va_iald (D := (dC, dI)) (f := sq) (n := 64) (cA := cI) hx hb hK hP 1 0 rfl rfl (qq_inE hi9002) dd_P_passingMoves_55 ?_
      refine lv_iload_n hx hb dd_P_passingMoves_56 rfl (lv_at hl 2 rfl) ?_
      refine lv_icmp_ne (tgt := 82) hx hb dd_P_passingMoves_57 (by decide) (fun hc => ?_) (fun hc => ?_)
      · replace hf := qq_f hc hf
        exact hJ82 sd rt ps sq kg x1 v9001 _ _ _ (lv_sub hl [1, 2, 0] rfl) hP hD hS hf
      · replace hf := qq_t hc hf
        refine lv_aload_n hx hb dd_P_passingMoves_60 rfl (lv_at hl 1 rfl) ?_
        refine lv_iload_n hx hb dd_P_passingMoves_61 rfl (lv_at hl 0 rfl) ?_
        refine lv_iconst (v := 1) hx hb dd_P_passingMoves_62 (by decide) ?_
        refine lv_isub hx hb dd_P_passingMoves_63 ?_
        refine lv_aload_n hx hb dd_P_passingMoves_64 rfl (lv_at hl 1 rfl) ?_
        obtain ⟨r9003, hy9003, hf⟩ := qq_bd hf
        refine qq_V (As := []) (rest := [.int (v9001 - 1), .ref oP]) (wr := []) (wf := [(oP, .inr (1, [.ref osq, .ref okg, .int sd, .int rt, .int ps])), (osq, .inl (cI, 64, .inl sq)), (okg, .inl (cI, 2, .inl kg))]) ⟨hx, hb, hml, hown, hts⟩ (ct_P_passingTarget l dC dI cI cL cR oP osq okg sd rt ps sq kg hy9003) mm_20 mm_21 mm_22 mm_19 mm_15 hd_P_passingTarget (by decide) qq_00 hP hD hK hS hA hT hN (q0 := 0) (ci := 1) rfl rfl [0, 1, 2] [] [0, 1, 2] rfl rfl rfl (by decide) rfl hl.1 rfl (Nat.le_of_ble_eq_true rfl) dd_P_passingMoves_65 (fun H locs hP hD hS => ?_)
        refine W.eq (g2 := F0 m 68 ls [.int r9003, .int (v9001 - 1), .ref oP]) rfl ?_
        refine lv_iconst (v := 0) hx hb dd_P_passingMoves_68 (by decide) ?_
        obtain ⟨r9004, hy9004, hf⟩ := qq_bd hf
        refine qq_SN (As := [.int (v9001 - 1), .int r9003, .int 0]) (rest := [.ref oP]) (wr := [(oP, .inr (1, [.ref osq, .ref okg, .int sd, .int rt, .int ps])), (osq, .inl (cI, 64, .inl sq)), (okg, .inl (cI, 2, .inl kg))]) (wf := [(oP, .inr (1, [.ref osq, .ref okg, .int sd, .int rt, .int ps])), (osq, .inl (cI, 64, .inl sq)), (okg, .inl (cI, 2, .inl kg))]) ⟨hx, hb, hml, hown, hts⟩ (ct_B_codeOf l dC dI cI cL cR (v9001 - 1) r9003 0 hy9004) (hN.1 _ nm_0) mm_40 mm_39 mm_1 hd_B_codeOf (by decide) qq_00 hP hD hK hS hA hT hN [] [0, 1, 2] [0, 1, 2] rfl rfl rfl (by decide) rfl hl.1 rfl (Nat.le_of_ble_eq_true rfl) dd_P_passingMoves_69 (fun H locs hP hD hS => ?_)
        refine W.eq (g2 := F0 m 72 ls [.int r9004, .ref oP]) rfl ?_
        obtain ⟨⟨r9005, sd_9006, rt_9007, ps_9008, sq_9009, kg_9010⟩, hy9010, hf⟩ := qq_bd hf
        dsimp only at hf
        refine qq_V (As := [.int r9004]) (rest := []) (wr := []) (wf := [(oP, .inr (1, [.ref osq, .ref okg, .int sd_9006, .int rt_9007, .int ps_9008])), (osq, .inl (cI, 64, .inl sq_9009)), (okg, .inl (cI, 2, .inl kg_9010))]) ⟨hx, hb, hml, hown, hts⟩ (ct_P_keepsKingSafe l dC dI cI cL cR oP osq okg sd rt ps sq kg r9004 hy9010) mm_136 mm_137 mm_138 mm_135 mm_15 hd_P_keepsKingSafe (by decide) qq_00 hP hD hK hS hA hT hN (q0 := 0) (ci := 1) rfl rfl [0, 1, 2] [] [0, 1, 2] rfl rfl rfl (by decide) rfl hl.1 rfl (Nat.le_of_ble_eq_true rfl) dd_P_passingMoves_72 (fun H locs hP hD hS => ?_)
        refine W.eq (g2 := F0 m 75 ls [.int r9005]) rfl ?_
        refine lv_if_eq (tgt := 82) hx hb dd_P_passingMoves_75 (by decide) (fun hc => ?_) (fun hc => ?_)
        · replace hf := qq_t hc hf
          exact hJ82 sd_9006 rt_9007 ps_9008 sq_9009 kg_9010 x1 v9001 _ _ _ (lv_sub hl [1, 2, 0] rfl) hP hD hS hf
        · replace hf := qq_f hc hf
          refine lv_iconst (v := 1) hx hb dd_P_passingMoves_78 (by decide) ?_
          refine lv_goto (tgt := 83) hx hb dd_P_passingMoves_79 (by decide) ?_
          exact hJ83 sd_9006 rt_9007 ps_9008 sq_9009 kg_9010 x1 v9001 1 _ _ _ (lv_sub hl [1, 2, 0] rfl) hP hD hS hf
  rw [fn_P_passingMoves] at hf
  refine lv_aload_n hx hb dd_P_passingMoves_0 rfl (lv_at hl 0 rfl) ?_
  refine va_get (D := (dC, dI)) (ci := 1) (v := .int ps) (C := RR_P) (T := FF_P) (N := 5) hx hb hts uu_P hown hK hP 0 rfl rfl 4 (by decide) (hts _ mm_13) (fun _ h9 => h9) rfl dd_P_passingMoves_1 ?_
  refine lv_iconst (v := (-1)) hx hb dd_P_passingMoves_4 (by decide) ?_
  refine lv_icmp_ne (tgt := 10) hx hb dd_P_passingMoves_5 (by decide) (fun hc => ?_) (fun hc => ?_)
  · replace hf := qq_f hc hf
    refine lv_iconst (v := 1) hx hb dd_P_passingMoves_10 (by decide) ?_
    refine lv_bipush (v := 6) hx hb dd_P_passingMoves_11 (by decide) ?_
    refine lv_aload_n hx hb dd_P_passingMoves_13 rfl (lv_at hl 0 rfl) ?_
    refine va_get (D := (dC, dI)) (ci := 1) (v := .int sd) (C := RR_P) (T := FF_P) (N := 5) hx hb hts uu_P hown hK hP 0 rfl rfl 2 (by decide) (hts _ mm_12) (fun _ h9 => h9) rfl dd_P_passingMoves_14 ?_
    refine lv_imul hx hb dd_P_passingMoves_17 ?_
    refine lv_iadd hx hb dd_P_passingMoves_18 ?_
    refine lv_topi (fun v1 ev1 => ?_)
    replace hf := qq_lt ev1 hf
    refine lv_istore_n (lv' := [(1, .int v1), (0, .ref oP)]) hx hb dd_P_passingMoves_19 rfl hl (by decide) rfl (fun ls hl => ?_)
    refine lv_aload_n hx hb dd_P_passingMoves_20 rfl (lv_at hl 1 rfl) ?_
    refine va_get (D := (dC, dI)) (ci := 1) (v := .int ps) (C := RR_P) (T := FF_P) (N := 5) hx hb hts uu_P hown hK hP 0 rfl rfl 4 (by decide) (hts _ mm_13) (fun _ h9 => h9) rfl dd_P_passingMoves_21 ?_
    refine lv_bipush (v := 8) hx hb dd_P_passingMoves_24 (by decide) ?_
    refine lv_aload_n hx hb dd_P_passingMoves_26 rfl (lv_at hl 1 rfl) ?_
    refine va_get (D := (dC, dI)) (ci := 1) (v := .int sd) (C := RR_P) (T := FF_P) (N := 5) hx hb hts uu_P hown hK hP 0 rfl rfl 2 (by decide) (hts _ mm_12) (fun _ h9 => h9) rfl dd_P_passingMoves_27 ?_
    refine lv_if_ne (tgt := 37) hx hb dd_P_passingMoves_30 (by decide) (fun hc => ?_) (fun hc => ?_)
    · replace hf := qq_f hc hf
      refine lv_iconst (v := 3) hx hb dd_P_passingMoves_37 (by decide) ?_
      exact hJ38 sd rt ps sq kg v1 ps 8 3 _ _ _ (lv_sub hl [1, 0] rfl) hP hD hS hf
    · replace hf := qq_t hc hf
      refine lv_iconst (v := 4) hx hb dd_P_passingMoves_33 (by decide) ?_
      refine lv_goto (tgt := 38) hx hb dd_P_passingMoves_34 (by decide) ?_
      exact hJ38 sd rt ps sq kg v1 ps 8 4 _ _ _ (lv_sub hl [1, 0] rfl) hP hD hS hf
  · replace hf := qq_t hc hf
    refine lv_iconst (v := 0) hx hb dd_P_passingMoves_8 (by decide) ?_
    cases hf
    exact qq_iret hx hb hr hlocks hQ hP hD hK hS dd_P_passingMoves_9
theorem dd_H_wordOf_0 : decode bb_H_wordOf 0 = .ok (.lconst 0, 1) := by decide +kernel
theorem dd_H_wordOf_1 : decode bb_H_wordOf 1 = .ok (.lstore_n 2, 1) := by decide +kernel
theorem dd_H_wordOf_2 : decode bb_H_wordOf 2 = .ok (.iload_n 1, 1) := by decide +kernel
theorem dd_H_wordOf_3 : decode bb_H_wordOf 3 = .ok (.istore 4, 2) := by decide +kernel
theorem dd_H_wordOf_5 : decode bb_H_wordOf 5 = .ok (.iload 4, 2) := by decide +kernel
theorem dd_H_wordOf_7 : decode bb_H_wordOf 7 = .ok (.iload_n 1, 1) := by decide +kernel
theorem dd_H_wordOf_8 : decode bb_H_wordOf 8 = .ok (.bipush 16, 2) := by decide +kernel
theorem dd_H_wordOf_10 : decode bb_H_wordOf 10 = .ok (.iadd, 1) := by decide +kernel
theorem dd_H_wordOf_11 : decode bb_H_wordOf 11 = .ok (.if_icmp .ge 19, 3) := by decide +kernel
theorem dd_H_wordOf_14 : decode bb_H_wordOf 14 = .ok (.lload_n 2, 1) := by decide +kernel
theorem dd_H_wordOf_15 : decode bb_H_wordOf 15 = .ok (.iconst 4, 1) := by decide +kernel
theorem dd_H_wordOf_16 : decode bb_H_wordOf 16 = .ok (.lshl, 1) := by decide +kernel
theorem dd_H_wordOf_17 : decode bb_H_wordOf 17 = .ok (.aload_n 0, 1) := by decide +kernel
theorem dd_H_wordOf_18 : decode bb_H_wordOf 18 = .ok (.iload 4, 2) := by decide +kernel
theorem dd_H_wordOf_20 : decode bb_H_wordOf 20 = .ok (.iaload, 1) := by decide +kernel
theorem dd_H_wordOf_21 : decode bb_H_wordOf 21 = .ok (.i2l, 1) := by decide +kernel
theorem dd_H_wordOf_22 : decode bb_H_wordOf 22 = .ok (.lor, 1) := by decide +kernel
theorem dd_H_wordOf_23 : decode bb_H_wordOf 23 = .ok (.lstore_n 2, 1) := by decide +kernel
theorem dd_H_wordOf_24 : decode bb_H_wordOf 24 = .ok (.iinc 4 1, 3) := by decide +kernel
theorem dd_H_wordOf_27 : decode bb_H_wordOf 27 = .ok (.goto (-22), 3) := by decide +kernel
theorem dd_H_wordOf_30 : decode bb_H_wordOf 30 = .ok (.lload_n 2, 1) := by decide +kernel
theorem dd_H_wordOf_31 : decode bb_H_wordOf 31 = .ok (.lreturn, 1) := by decide +kernel
abbrev ty_H_wordOf : Type := Int64
noncomputable def lo_H_wordOf_5 (ar : Nat → Int32) (a1 : Int32) : Nat → Int64 → Int32 → Option ty_H_wordOf
  | 0, _, _ => none
  | n + 1, x2, x4 => if (a1 + 16) ≤ x4 then (some x2) else (qq_ck (qq_in x4 64) <| qq_let ((x2 <<< ((4 : Int32).toInt64 &&& 63)) ||| ((ar x4.toNatClampNeg).toInt64)) fun v1002 => qq_let (x4 + 1) fun v1003 => (lo_H_wordOf_5 ar a1 n) v1002 v1003)
theorem lo_H_wordOf_5_z (ar : Nat → Int32) (a1 : Int32) (x2 : Int64) (x4 : Int32) : lo_H_wordOf_5 ar a1 0 x2 x4 = none := rfl
theorem lo_H_wordOf_5_s (ar : Nat → Int32) (a1 : Int32) (x2 : Int64) (x4 : Int32) (n : Nat) : lo_H_wordOf_5 ar a1 (n + 1) x2 x4 = (if (a1 + 16) ≤ x4 then (some x2) else (qq_ck (qq_in x4 64) <| qq_let ((x2 <<< ((4 : Int32).toInt64 &&& 63)) ||| ((ar x4.toNatClampNeg).toInt64)) fun v1002 => qq_let (x4 + 1) fun v1003 => (lo_H_wordOf_5 ar a1 n) v1002 v1003)) := rfl
noncomputable def fn_H_wordOf (ar : Nat → Int32) (a1 : Int32) : Option ty_H_wordOf := qq_let (0 : Int64) fun v1 => lo_H_wordOf_5 ar a1 qq_FU v1 a1
abbrev rm_H_wordOf : Room := { frames := 0, cells := 0, slots := 0, locals := 0 }
set_option maxHeartbeats 4000000 in
set_option maxRecDepth 100000 in
theorem ct_H_wordOf (l : Launch) (dC : Nat → ClassId) (dI : Nat → Nat → Nat) (cI cL cR : ClassId) (oar : Nat) (ar : Nat → Int32) (a1 : Int32) {rr : Int64} (hf : fn_H_wordOf ar a1 = some rr) : qq_det l yy_H_wordOf (ww_of yy_H_wordOf bb_H_wordOf 5 (some .long)) rm_H_wordOf (dC, dI) (qq_ty cI cL cR) [.ref oar, .int a1] [(oar, .inl (cI, 64, .inl ar))] (some (.long rr)) [(oar, .inl (cI, 64, .inl ar))] := by
  refine qq_of (own := RR_H) (by decide) rfl (Nat.le_of_ble_eq_true rfl) ?_
  intro p e s m below meth c A Q ls hx hb hml hr hlocks hown hts hK hA hT hN hP hD hS hl hQ
  have hl : lv_has ls 5 [(0, .ref oar), (1, .int a1)] := hl
  have hL5 : ∀ (n5 : Nat) (x2 : Int64) (x4 : Int32) (H : Heap) (locs : List Loc) (ls : Array Slot), lv_has ls 5 [(0, .ref oar), (1, .int a1), (2, .long x2), (4, .int x4)] → va_P (dC, dI) classes [(oar, .inl (cI, 64, .inl ar))] H → va_D A [(oar, .inl (cI, 64, .inl ar))] → va_S A s.heap H locs → lo_H_wordOf_5 ar a1 n5 x2 x4 = some rr → W p l e rm_H_wordOf s m ([.ref oar, .int a1] : List Value).toArray below meth c H locs 0 0 Q (F0 m 5 ls []) := by
    intro n5
    induction n5 with
    | zero => exact fun x2 x4 H locs ls hl hP hD hS hf => absurd hf (by rw [lo_H_wordOf_5_z]; exact fun h => by cases h)
    | succ n5 ih5 =>
      intro x2 x4 H locs ls hl hP hD hS hf
      rw [lo_H_wordOf_5_s] at hf
      refine lv_iload hx hb dd_H_wordOf_5 (lv_at hl 3 rfl) ?_
      refine lv_iload_n hx hb dd_H_wordOf_7 rfl (lv_at hl 1 rfl) ?_
      refine lv_bipush (v := 16) hx hb dd_H_wordOf_8 (by decide) ?_
      refine lv_iadd hx hb dd_H_wordOf_10 ?_
      refine lv_icmp_ge (tgt := 30) hx hb dd_H_wordOf_11 (by decide) (fun hc => ?_) (fun hc => ?_)
      · replace hf := qq_t hc hf
        refine lv_lload_n hx hb dd_H_wordOf_30 rfl (lv_at hl 2 rfl) ?_
        cases hf
        exact qq_lret hx hb hr hlocks hQ hP hD hK hS dd_H_wordOf_31
      · replace hf := qq_f hc hf
        refine lv_lload_n hx hb dd_H_wordOf_14 rfl (lv_at hl 2 rfl) ?_
        refine lv_iconst (v := 4) hx hb dd_H_wordOf_15 (by decide) ?_
        refine lv_lshl (v := (x2 <<< ((4 : Int32).toInt64 &&& 63))) hx hb dd_H_wordOf_16 rfl ?_
        refine lv_aload_n hx hb dd_H_wordOf_17 rfl (lv_at hl 0 rfl) ?_
        refine lv_iload hx hb dd_H_wordOf_18 (lv_at hl 3 rfl) ?_
        obtain ⟨hi1001, hf⟩ := qq_ckE hf
        refine va_iald (D := (dC, dI)) (f := ar) (n := 64) (cA := cI) hx hb hK hP 0 0 rfl rfl (qq_inE hi1001) dd_H_wordOf_20 ?_
        refine lv_i2l (v := (ar x4.toNatClampNeg).toInt64) hx hb dd_H_wordOf_21 rfl ?_
        refine lv_lor hx hb dd_H_wordOf_22 ?_
        refine lv_topl (fun v1002 ev1002 => ?_)
        replace hf := qq_lt ev1002 hf
        refine lv_lstore_n (lv' := [(2, .long v1002), (0, .ref oar), (1, .int a1), (4, .int x4)]) hx hb dd_H_wordOf_23 rfl hl (by decide) rfl (fun ls hl => ?_)
        obtain ⟨v1003, ev1003⟩ : ∃ z, z = x4 + 1 := ⟨_, rfl⟩
        replace hf := qq_lt ev1003 hf
        refine lv_iinc (k := 3) (v := v1003) (lv' := [(4, .int v1003), (2, .long v1002), (0, .ref oar), (1, .int a1)]) hx hb dd_H_wordOf_24 hl rfl (by rw [ev1003]; exact congrArg _ (by decide)) (by decide) rfl (fun ls hl => ?_)
        refine lv_goto (tgt := 5) hx hb dd_H_wordOf_27 (by decide) ?_
        exact ih5 v1002 v1003 _ _ _ (lv_sub hl [2, 3, 1, 0] rfl) hP hD hS hf
  rw [fn_H_wordOf] at hf
  refine lv_lconst (v := 0) hx hb dd_H_wordOf_0 (by decide) ?_
  refine lv_topl (fun v1 ev1 => ?_)
  replace hf := qq_lt ev1 hf
  refine lv_lstore_n (lv' := [(2, .long v1), (0, .ref oar), (1, .int a1)]) hx hb dd_H_wordOf_1 rfl hl (by decide) rfl (fun ls hl => ?_)
  refine lv_iload_n hx hb dd_H_wordOf_2 rfl (lv_at hl 2 rfl) ?_
  refine lv_istore (lv' := [(4, .int a1), (2, .long v1), (0, .ref oar), (1, .int a1)]) hx hb dd_H_wordOf_3 hl (by decide) rfl (fun ls hl => ?_)
  exact hL5 qq_FU v1 a1 _ _ _ (lv_sub hl [2, 3, 1, 0] rfl) hP hD hS hf
theorem dd_H_notePosition_0 : decode bb_H_notePosition 0 = .ok (.aload_n 0, 1) := by decide +kernel
theorem dd_H_notePosition_1 : decode bb_H_notePosition 1 = .ok (.getfield 15, 3) := by decide +kernel
theorem dd_H_notePosition_4 : decode bb_H_notePosition 4 = .ok (.aload_n 0, 1) := by decide +kernel
theorem dd_H_notePosition_5 : decode bb_H_notePosition 5 = .ok (.getfield 28, 3) := by decide +kernel
theorem dd_H_notePosition_8 : decode bb_H_notePosition 8 = .ok (.iload_n 2, 1) := by decide +kernel
theorem dd_H_notePosition_9 : decode bb_H_notePosition 9 = .ok (.aload_n 1, 1) := by decide +kernel
theorem dd_H_notePosition_10 : decode bb_H_notePosition 10 = .ok (.getfield 37, 3) := by decide +kernel
theorem dd_H_notePosition_13 : decode bb_H_notePosition 13 = .ok (.iconst 5, 1) := by decide +kernel
theorem dd_H_notePosition_14 : decode bb_H_notePosition 14 = .ok (.ishl, 1) := by decide +kernel
theorem dd_H_notePosition_15 : decode bb_H_notePosition 15 = .ok (.ior, 1) := by decide +kernel
theorem dd_H_notePosition_16 : decode bb_H_notePosition 16 = .ok (.aload_n 1, 1) := by decide +kernel
theorem dd_H_notePosition_17 : decode bb_H_notePosition 17 = .ok (.getfield 52, 3) := by decide +kernel
theorem dd_H_notePosition_20 : decode bb_H_notePosition 20 = .ok (.bipush 6, 2) := by decide +kernel
theorem dd_H_notePosition_22 : decode bb_H_notePosition 22 = .ok (.ishl, 1) := by decide +kernel
theorem dd_H_notePosition_23 : decode bb_H_notePosition 23 = .ok (.ior, 1) := by decide +kernel
theorem dd_H_notePosition_24 : decode bb_H_notePosition 24 = .ok (.iastore, 1) := by decide +kernel
theorem dd_H_notePosition_25 : decode bb_H_notePosition 25 = .ok (.iconst 0, 1) := by decide +kernel
theorem dd_H_notePosition_26 : decode bb_H_notePosition 26 = .ok (.istore_n 3, 1) := by decide +kernel
theorem dd_H_notePosition_27 : decode bb_H_notePosition 27 = .ok (.iload_n 3, 1) := by decide +kernel
theorem dd_H_notePosition_28 : decode bb_H_notePosition 28 = .ok (.iconst 4, 1) := by decide +kernel
theorem dd_H_notePosition_29 : decode bb_H_notePosition 29 = .ok (.if_icmp .ge 33, 3) := by decide +kernel
theorem dd_H_notePosition_32 : decode bb_H_notePosition 32 = .ok (.aload_n 0, 1) := by decide +kernel
theorem dd_H_notePosition_33 : decode bb_H_notePosition 33 = .ok (.getfield 11, 3) := by decide +kernel
theorem dd_H_notePosition_36 : decode bb_H_notePosition 36 = .ok (.iconst 4, 1) := by decide +kernel
theorem dd_H_notePosition_37 : decode bb_H_notePosition 37 = .ok (.aload_n 0, 1) := by decide +kernel
theorem dd_H_notePosition_38 : decode bb_H_notePosition 38 = .ok (.getfield 28, 3) := by decide +kernel
theorem dd_H_notePosition_41 : decode bb_H_notePosition 41 = .ok (.imul, 1) := by decide +kernel
theorem dd_H_notePosition_42 : decode bb_H_notePosition 42 = .ok (.iload_n 3, 1) := by decide +kernel
theorem dd_H_notePosition_43 : decode bb_H_notePosition 43 = .ok (.iadd, 1) := by decide +kernel
theorem dd_H_notePosition_44 : decode bb_H_notePosition 44 = .ok (.aload_n 1, 1) := by decide +kernel
theorem dd_H_notePosition_45 : decode bb_H_notePosition 45 = .ok (.getfield 32, 3) := by decide +kernel
theorem dd_H_notePosition_48 : decode bb_H_notePosition 48 = .ok (.bipush 16, 2) := by decide +kernel
theorem dd_H_notePosition_50 : decode bb_H_notePosition 50 = .ok (.iload_n 3, 1) := by decide +kernel
theorem dd_H_notePosition_51 : decode bb_H_notePosition 51 = .ok (.imul, 1) := by decide +kernel
theorem dd_H_notePosition_52 : decode bb_H_notePosition 52 = .ok (.invokestatic 55, 3) := by decide +kernel
theorem dd_H_notePosition_55 : decode bb_H_notePosition 55 = .ok (.lastore, 1) := by decide +kernel
theorem dd_H_notePosition_56 : decode bb_H_notePosition 56 = .ok (.iinc 3 1, 3) := by decide +kernel
theorem dd_H_notePosition_59 : decode bb_H_notePosition 59 = .ok (.goto (-32), 3) := by decide +kernel
theorem dd_H_notePosition_62 : decode bb_H_notePosition 62 = .ok (.return_, 1) := by decide +kernel
abbrev ty_H_notePosition : Type := (Nat → Int64) × (Nat → Int32)
noncomputable def lo_H_notePosition_27 (md : Int32) (sd : Int32) (rt : Int32) (sq : Nat → Int32) (a2 : Int32) : Nat → (Nat → Int64) → (Nat → Int32) → Int32 → Option ty_H_notePosition
  | 0, _, _, _ => none
  | n + 1, bo, ma, x3 => if 4 ≤ x3 then (some (bo, ma)) else ((fn_H_wordOf sq (16 * x3)).bind fun r1001 => qq_ck (qq_in ((4 * md) + x3) 604) <| qq_let (vp_updL bo ((4 * md) + x3).toNatClampNeg r1001) fun bo_1003 => qq_let (x3 + 1) fun v1004 => (lo_H_notePosition_27 md sd rt sq a2 n) bo_1003 ma v1004)
theorem lo_H_notePosition_27_z (md : Int32) (sd : Int32) (rt : Int32) (sq : Nat → Int32) (a2 : Int32) (bo : Nat → Int64) (ma : Nat → Int32) (x3 : Int32) : lo_H_notePosition_27 md sd rt sq a2 0 bo ma x3 = none := rfl
theorem lo_H_notePosition_27_s (md : Int32) (sd : Int32) (rt : Int32) (sq : Nat → Int32) (a2 : Int32) (bo : Nat → Int64) (ma : Nat → Int32) (x3 : Int32) (n : Nat) : lo_H_notePosition_27 md sd rt sq a2 (n + 1) bo ma x3 = (if 4 ≤ x3 then (some (bo, ma)) else ((fn_H_wordOf sq (16 * x3)).bind fun r1001 => qq_ck (qq_in ((4 * md) + x3) 604) <| qq_let (vp_updL bo ((4 * md) + x3).toNatClampNeg r1001) fun bo_1003 => qq_let (x3 + 1) fun v1004 => (lo_H_notePosition_27 md sd rt sq a2 n) bo_1003 ma v1004)) := rfl
noncomputable def fn_H_notePosition (md : Int32) (bo : Nat → Int64) (ma : Nat → Int32) (sd : Int32) (rt : Int32) (sq : Nat → Int32) (a2 : Int32) : Option ty_H_notePosition := qq_ck (qq_in md 151) <| qq_let (upd ma md.toNatClampNeg ((a2 ||| (sd <<< (5 &&& 31))) ||| (rt <<< (6 &&& 31)))) fun ma_2 => lo_H_notePosition_27 md sd rt sq a2 qq_FU bo ma_2 0
abbrev rm_H_notePosition : Room := { frames := 1, cells := 0, slots := 0, locals := 24 }
set_option maxHeartbeats 4000000 in
set_option maxRecDepth 100000 in
theorem ct_H_notePosition (l : Launch) (dC : Nat → ClassId) (dI : Nat → Nat → Nat) (cI cL cR : ClassId) (oH obo oma oqt oyc oyb oP osq okg : Nat) (md : Int32) (bo : Nat → Int64) (ma : Nat → Int32) (qt : Nat → Int32) (yc : Nat → Int32) (yb : Nat → Int32) (sd : Int32) (rt : Int32) (ps : Int32) (sq : Nat → Int32) (kg : Nat → Int32) (a2 : Int32) {bo' : Nat → Int64} {ma' : Nat → Int32} (hf : fn_H_notePosition md bo ma sd rt sq a2 = some (bo', ma')) : qq_det l yy_H_notePosition (ww_of yy_H_notePosition bb_H_notePosition 4 none) rm_H_notePosition (dC, dI) (qq_ty cI cL cR) [.ref oH, .ref oP, .int a2] [(oH, .inr (3, [.ref obo, .ref oma, .ref oqt, .ref oyc, .ref oyb, .int md])), (obo, .inl (cL, 604, .inr (.inl bo))), (oma, .inl (cI, 151, .inl ma)), (oqt, .inl (cI, 151, .inl qt)), (oyc, .inl (cI, 150, .inl yc)), (oyb, .inl (cI, 150, .inl yb)), (oP, .inr (1, [.ref osq, .ref okg, .int sd, .int rt, .int ps])), (osq, .inl (cI, 64, .inl sq)), (okg, .inl (cI, 2, .inl kg))] none [(oH, .inr (3, [.ref obo, .ref oma, .ref oqt, .ref oyc, .ref oyb, .int md])), (obo, .inl (cL, 604, .inr (.inl bo'))), (oma, .inl (cI, 151, .inl ma')), (oqt, .inl (cI, 151, .inl qt)), (oyc, .inl (cI, 150, .inl yc)), (oyb, .inl (cI, 150, .inl yb)), (oP, .inr (1, [.ref osq, .ref okg, .int sd, .int rt, .int ps])), (osq, .inl (cI, 64, .inl sq)), (okg, .inl (cI, 2, .inl kg))] := by
  refine qq_of (own := RR_H) (by decide) rfl (Nat.le_of_ble_eq_true rfl) ?_
  intro p e s m below meth c A Q ls hx hb hml hr hlocks hown hts hK hA hT hN hP hD hS hl hQ
  have hl : lv_has ls 4 [(0, .ref oH), (1, .ref oP), (2, .int a2)] := hl
  have hL27 : ∀ (n27 : Nat) (bo : Nat → Int64) (ma : Nat → Int32) (x3 : Int32) (H : Heap) (locs : List Loc) (ls : Array Slot), lv_has ls 4 [(0, .ref oH), (1, .ref oP), (3, .int x3)] → va_P (dC, dI) classes [(oH, .inr (3, [.ref obo, .ref oma, .ref oqt, .ref oyc, .ref oyb, .int md])), (obo, .inl (cL, 604, .inr (.inl bo))), (oma, .inl (cI, 151, .inl ma)), (oqt, .inl (cI, 151, .inl qt)), (oyc, .inl (cI, 150, .inl yc)), (oyb, .inl (cI, 150, .inl yb)), (oP, .inr (1, [.ref osq, .ref okg, .int sd, .int rt, .int ps])), (osq, .inl (cI, 64, .inl sq)), (okg, .inl (cI, 2, .inl kg))] H → va_D A [(oH, .inr (3, [.ref obo, .ref oma, .ref oqt, .ref oyc, .ref oyb, .int md])), (obo, .inl (cL, 604, .inr (.inl bo))), (oma, .inl (cI, 151, .inl ma)), (oqt, .inl (cI, 151, .inl qt)), (oyc, .inl (cI, 150, .inl yc)), (oyb, .inl (cI, 150, .inl yb)), (oP, .inr (1, [.ref osq, .ref okg, .int sd, .int rt, .int ps])), (osq, .inl (cI, 64, .inl sq)), (okg, .inl (cI, 2, .inl kg))] → va_S A s.heap H locs → lo_H_notePosition_27 md sd rt sq a2 n27 bo ma x3 = some (bo', ma') → W p l e rm_H_notePosition s m ([.ref oH, .ref oP, .int a2] : List Value).toArray below meth c H locs 0 0 Q (F0 m 27 ls []) := by
    intro n27
    induction n27 with
    | zero => exact fun bo ma x3 H locs ls hl hP hD hS hf => absurd hf (by rw [lo_H_notePosition_27_z]; exact fun h => by cases h)
    | succ n27 ih27 =>
      intro bo ma x3 H locs ls hl hP hD hS hf
      rw [lo_H_notePosition_27_s] at hf
      refine lv_iload_n hx hb dd_H_notePosition_27 rfl (lv_at hl 2 rfl) ?_
      refine lv_iconst (v := 4) hx hb dd_H_notePosition_28 (by decide) ?_
      refine lv_icmp_ge (tgt := 62) hx hb dd_H_notePosition_29 (by decide) (fun hc => ?_) (fun hc => ?_)
      · replace hf := qq_t hc hf
        cases hf
        exact qq_vret hx hb hr hlocks hQ hP hD hK hS dd_H_notePosition_62
      · replace hf := qq_f hc hf
        refine lv_aload_n hx hb dd_H_notePosition_32 rfl (lv_at hl 0 rfl) ?_
        refine va_get (D := (dC, dI)) (ci := 3) (v := .ref obo) (C := RR_H) (T := FF_H) (N := 6) hx hb hts uu_H hown hK hP 0 rfl rfl 0 (by decide) (hts _ mm_160) (fun _ h9 => h9) rfl dd_H_notePosition_33 ?_
        refine lv_iconst (v := 4) hx hb dd_H_notePosition_36 (by decide) ?_
        refine lv_aload_n hx hb dd_H_notePosition_37 rfl (lv_at hl 0 rfl) ?_
        refine va_get (D := (dC, dI)) (ci := 3) (v := .int md) (C := RR_H) (T := FF_H) (N := 6) hx hb hts uu_H hown hK hP 0 rfl rfl 5 (by decide) (hts _ mm_158) (fun _ h9 => h9) rfl dd_H_notePosition_38 ?_
        refine lv_imul hx hb dd_H_notePosition_41 ?_
        refine lv_iload_n hx hb dd_H_notePosition_42 rfl (lv_at hl 2 rfl) ?_
        refine lv_iadd hx hb dd_H_notePosition_43 ?_
        refine lv_aload_n hx hb dd_H_notePosition_44 rfl (lv_at hl 1 rfl) ?_
        refine va_get (D := (dC, dI)) (ci := 1) (v := .ref osq) (C := RR_P) (T := FF_P) (N := 5) hx hb hts uu_P hown hK hP 6 rfl rfl 0 (by decide) (hts _ mm_161) (fun _ h9 => h9) rfl dd_H_notePosition_45 ?_
        refine lv_bipush (v := 16) hx hb dd_H_notePosition_48 (by decide) ?_
        refine lv_iload_n hx hb dd_H_notePosition_50 rfl (lv_at hl 2 rfl) ?_
        refine lv_imul hx hb dd_H_notePosition_51 ?_
        obtain ⟨r1001, hy1001, hf⟩ := qq_bd hf
        refine qq_S (As := [.ref osq, .int (16 * x3)]) (rest := [.int ((4 * md) + x3), .ref obo]) (wr := [(oH, .inr (3, [.ref obo, .ref oma, .ref oqt, .ref oyc, .ref oyb, .int md])), (obo, .inl (cL, 604, .inr (.inl bo))), (oma, .inl (cI, 151, .inl ma)), (oqt, .inl (cI, 151, .inl qt)), (oyc, .inl (cI, 150, .inl yc)), (oyb, .inl (cI, 150, .inl yb)), (oP, .inr (1, [.ref osq, .ref okg, .int sd, .int rt, .int ps])), (okg, .inl (cI, 2, .inl kg))]) (wf := [(oH, .inr (3, [.ref obo, .ref oma, .ref oqt, .ref oyc, .ref oyb, .int md])), (obo, .inl (cL, 604, .inr (.inl bo))), (oma, .inl (cI, 151, .inl ma)), (oqt, .inl (cI, 151, .inl qt)), (oyc, .inl (cI, 150, .inl yc)), (oyb, .inl (cI, 150, .inl yb)), (oP, .inr (1, [.ref osq, .ref okg, .int sd, .int rt, .int ps])), (osq, .inl (cI, 64, .inl sq)), (okg, .inl (cI, 2, .inl kg))]) ⟨hx, hb, hml, hown, hts⟩ (ct_H_wordOf l dC dI cI cL cR osq sq (16 * x3) hy1001) mm_164 mm_165 mm_162 mm_163 hd_H_wordOf (by decide) qq_00 hP hD hK hS hA hT hN [7] [0, 1, 2, 3, 4, 5, 6, 8] [0, 1, 2, 3, 4, 5, 6, 8, 7] rfl rfl rfl (by decide) rfl hl.1 rfl (Nat.le_of_ble_eq_true rfl) dd_H_notePosition_52 (fun H locs hP hD hS => ?_)
        refine W.eq (g2 := F0 m 55 ls [.long r1001, .int ((4 * md) + x3), .ref obo]) rfl ?_
        obtain ⟨hi1002, hf⟩ := qq_ckE hf
        refine va_last (D := (dC, dI)) (f := bo) (n := 604) (cA := cL) hx hb hK hP hD hS 1 1 rfl rfl (qq_inE hi1002) dd_H_notePosition_55 (fun H locs hP hD hS => ?_)
        obtain ⟨bo_1003, ebo_1003⟩ : ∃ z, z = vp_updL bo ((4 * md) + x3).toNatClampNeg r1001 := ⟨_, rfl⟩
        replace hf := qq_lt ebo_1003 hf
        have hP : va_P (dC, dI) classes [(oH, .inr (3, [.ref obo, .ref oma, .ref oqt, .ref oyc, .ref oyb, .int md])), (obo, .inl (cL, 604, .inr (.inl bo_1003))), (oma, .inl (cI, 151, .inl ma)), (oqt, .inl (cI, 151, .inl qt)), (oyc, .inl (cI, 150, .inl yc)), (oyb, .inl (cI, 150, .inl yb)), (oP, .inr (1, [.ref osq, .ref okg, .int sd, .int rt, .int ps])), (osq, .inl (cI, 64, .inl sq)), (okg, .inl (cI, 2, .inl kg))] H := by rw [ebo_1003]; exact hP
        have hD : va_D A [(oH, .inr (3, [.ref obo, .ref oma, .ref oqt, .ref oyc, .ref oyb, .int md])), (obo, .inl (cL, 604, .inr (.inl bo_1003))), (oma, .inl (cI, 151, .inl ma)), (oqt, .inl (cI, 151, .inl qt)), (oyc, .inl (cI, 150, .inl yc)), (oyb, .inl (cI, 150, .inl yb)), (oP, .inr (1, [.ref osq, .ref okg, .int sd, .int rt, .int ps])), (osq, .inl (cI, 64, .inl sq)), (okg, .inl (cI, 2, .inl kg))] := by rw [ebo_1003]; exact hD
        obtain ⟨v1004, ev1004⟩ : ∃ z, z = x3 + 1 := ⟨_, rfl⟩
        replace hf := qq_lt ev1004 hf
        refine lv_iinc (k := 2) (v := v1004) (lv' := [(3, .int v1004), (0, .ref oH), (1, .ref oP)]) hx hb dd_H_notePosition_56 hl rfl (by rw [ev1004]; exact congrArg _ (by decide)) (by decide) rfl (fun ls hl => ?_)
        refine lv_goto (tgt := 27) hx hb dd_H_notePosition_59 (by decide) ?_
        exact ih27 bo_1003 ma v1004 _ _ _ (lv_sub hl [1, 2, 0] rfl) hP hD hS hf
  rw [fn_H_notePosition] at hf
  refine lv_aload_n hx hb dd_H_notePosition_0 rfl (lv_at hl 0 rfl) ?_
  refine va_get (D := (dC, dI)) (ci := 3) (v := .ref oma) (C := RR_H) (T := FF_H) (N := 6) hx hb hts uu_H hown hK hP 0 rfl rfl 1 (by decide) (hts _ mm_166) (fun _ h9 => h9) rfl dd_H_notePosition_1 ?_
  refine lv_aload_n hx hb dd_H_notePosition_4 rfl (lv_at hl 0 rfl) ?_
  refine va_get (D := (dC, dI)) (ci := 3) (v := .int md) (C := RR_H) (T := FF_H) (N := 6) hx hb hts uu_H hown hK hP 0 rfl rfl 5 (by decide) (hts _ mm_158) (fun _ h9 => h9) rfl dd_H_notePosition_5 ?_
  refine lv_iload_n hx hb dd_H_notePosition_8 rfl (lv_at hl 2 rfl) ?_
  refine lv_aload_n hx hb dd_H_notePosition_9 rfl (lv_at hl 1 rfl) ?_
  refine va_get (D := (dC, dI)) (ci := 1) (v := .int sd) (C := RR_P) (T := FF_P) (N := 5) hx hb hts uu_P hown hK hP 6 rfl rfl 2 (by decide) (hts _ mm_167) (fun _ h9 => h9) rfl dd_H_notePosition_10 ?_
  refine lv_iconst (v := 5) hx hb dd_H_notePosition_13 (by decide) ?_
  refine lv_ishl hx hb dd_H_notePosition_14 ?_
  refine lv_ior hx hb dd_H_notePosition_15 ?_
  refine lv_aload_n hx hb dd_H_notePosition_16 rfl (lv_at hl 1 rfl) ?_
  refine va_get (D := (dC, dI)) (ci := 1) (v := .int rt) (C := RR_P) (T := FF_P) (N := 5) hx hb hts uu_P hown hK hP 6 rfl rfl 3 (by decide) (hts _ mm_168) (fun _ h9 => h9) rfl dd_H_notePosition_17 ?_
  refine lv_bipush (v := 6) hx hb dd_H_notePosition_20 (by decide) ?_
  refine lv_ishl hx hb dd_H_notePosition_22 ?_
  refine lv_ior hx hb dd_H_notePosition_23 ?_
  obtain ⟨hi1, hf⟩ := qq_ckE hf
  refine va_iast (D := (dC, dI)) (f := ma) (n := 151) (cA := cI) hx hb hK hP hD hS 2 0 rfl rfl (qq_inE hi1) dd_H_notePosition_24 (fun H locs hP hD hS => ?_)
  obtain ⟨ma_2, ema_2⟩ : ∃ z, z = upd ma md.toNatClampNeg ((a2 ||| (sd <<< (5 &&& 31))) ||| (rt <<< (6 &&& 31))) := ⟨_, rfl⟩
  replace hf := qq_lt ema_2 hf
  have hP : va_P (dC, dI) classes [(oH, .inr (3, [.ref obo, .ref oma, .ref oqt, .ref oyc, .ref oyb, .int md])), (obo, .inl (cL, 604, .inr (.inl bo))), (oma, .inl (cI, 151, .inl ma_2)), (oqt, .inl (cI, 151, .inl qt)), (oyc, .inl (cI, 150, .inl yc)), (oyb, .inl (cI, 150, .inl yb)), (oP, .inr (1, [.ref osq, .ref okg, .int sd, .int rt, .int ps])), (osq, .inl (cI, 64, .inl sq)), (okg, .inl (cI, 2, .inl kg))] H := by rw [ema_2]; exact hP
  have hD : va_D A [(oH, .inr (3, [.ref obo, .ref oma, .ref oqt, .ref oyc, .ref oyb, .int md])), (obo, .inl (cL, 604, .inr (.inl bo))), (oma, .inl (cI, 151, .inl ma_2)), (oqt, .inl (cI, 151, .inl qt)), (oyc, .inl (cI, 150, .inl yc)), (oyb, .inl (cI, 150, .inl yb)), (oP, .inr (1, [.ref osq, .ref okg, .int sd, .int rt, .int ps])), (osq, .inl (cI, 64, .inl sq)), (okg, .inl (cI, 2, .inl kg))] := by rw [ema_2]; exact hD
  refine lv_iconst (v := 0) hx hb dd_H_notePosition_25 (by decide) ?_
  refine lv_istore_n (lv' := [(3, .int 0), (0, .ref oH), (1, .ref oP), (2, .int a2)]) hx hb dd_H_notePosition_26 rfl hl (by decide) rfl (fun ls hl => ?_)
  exact hL27 qq_FU bo ma_2 0 _ _ _ (lv_sub hl [1, 2, 0] rfl) hP hD hS hf
theorem dd_B_startPlay_0 : decode bb_B_startPlay 0 = .ok (.aload_n 0, 1) := by decide +kernel
theorem dd_B_startPlay_1 : decode bb_B_startPlay 1 = .ok (.getfield 10, 3) := by decide +kernel
theorem dd_B_startPlay_4 : decode bb_B_startPlay 4 = .ok (.iload_n 1, 1) := by decide +kernel
theorem dd_B_startPlay_5 : decode bb_B_startPlay 5 = .ok (.putfield 123, 3) := by decide +kernel
theorem dd_B_startPlay_8 : decode bb_B_startPlay 8 = .ok (.aload_n 0, 1) := by decide +kernel
theorem dd_B_startPlay_9 : decode bb_B_startPlay 9 = .ok (.getfield 10, 3) := by decide +kernel
theorem dd_B_startPlay_12 : decode bb_B_startPlay 12 = .ok (.iload_n 2, 1) := by decide +kernel
theorem dd_B_startPlay_13 : decode bb_B_startPlay 13 = .ok (.putfield 126, 3) := by decide +kernel
theorem dd_B_startPlay_16 : decode bb_B_startPlay 16 = .ok (.aload_n 0, 1) := by decide +kernel
theorem dd_B_startPlay_17 : decode bb_B_startPlay 17 = .ok (.getfield 10, 3) := by decide +kernel
theorem dd_B_startPlay_20 : decode bb_B_startPlay 20 = .ok (.iload_n 3, 1) := by decide +kernel
theorem dd_B_startPlay_21 : decode bb_B_startPlay 21 = .ok (.putfield 129, 3) := by decide +kernel
theorem dd_B_startPlay_24 : decode bb_B_startPlay 24 = .ok (.aload_n 0, 1) := by decide +kernel
theorem dd_B_startPlay_25 : decode bb_B_startPlay 25 = .ok (.getfield 10, 3) := by decide +kernel
theorem dd_B_startPlay_28 : decode bb_B_startPlay 28 = .ok (.getfield 159, 3) := by decide +kernel
theorem dd_B_startPlay_31 : decode bb_B_startPlay 31 = .ok (.iconst 0, 1) := by decide +kernel
theorem dd_B_startPlay_32 : decode bb_B_startPlay 32 = .ok (.aload_n 0, 1) := by decide +kernel
theorem dd_B_startPlay_33 : decode bb_B_startPlay 33 = .ok (.getfield 10, 3) := by decide +kernel
theorem dd_B_startPlay_36 : decode bb_B_startPlay 36 = .ok (.bipush 6, 2) := by decide +kernel
theorem dd_B_startPlay_38 : decode bb_B_startPlay 38 = .ok (.invokevirtual 162, 3) := by decide +kernel
theorem dd_B_startPlay_41 : decode bb_B_startPlay 41 = .ok (.iastore, 1) := by decide +kernel
theorem dd_B_startPlay_42 : decode bb_B_startPlay 42 = .ok (.aload_n 0, 1) := by decide +kernel
theorem dd_B_startPlay_43 : decode bb_B_startPlay 43 = .ok (.getfield 10, 3) := by decide +kernel
theorem dd_B_startPlay_46 : decode bb_B_startPlay 46 = .ok (.getfield 159, 3) := by decide +kernel
theorem dd_B_startPlay_49 : decode bb_B_startPlay 49 = .ok (.iconst 1, 1) := by decide +kernel
theorem dd_B_startPlay_50 : decode bb_B_startPlay 50 = .ok (.aload_n 0, 1) := by decide +kernel
theorem dd_B_startPlay_51 : decode bb_B_startPlay 51 = .ok (.getfield 10, 3) := by decide +kernel
theorem dd_B_startPlay_54 : decode bb_B_startPlay 54 = .ok (.bipush 12, 2) := by decide +kernel
theorem dd_B_startPlay_56 : decode bb_B_startPlay 56 = .ok (.invokevirtual 162, 3) := by decide +kernel
theorem dd_B_startPlay_59 : decode bb_B_startPlay 59 = .ok (.iastore, 1) := by decide +kernel
theorem dd_B_startPlay_60 : decode bb_B_startPlay 60 = .ok (.aload_n 0, 1) := by decide +kernel
theorem dd_B_startPlay_61 : decode bb_B_startPlay 61 = .ok (.getfield 19, 3) := by decide +kernel
theorem dd_B_startPlay_64 : decode bb_B_startPlay 64 = .ok (.invokevirtual 166, 3) := by decide +kernel
theorem dd_B_startPlay_67 : decode bb_B_startPlay 67 = .ok (.aload_n 0, 1) := by decide +kernel
theorem dd_B_startPlay_68 : decode bb_B_startPlay 68 = .ok (.getfield 19, 3) := by decide +kernel
theorem dd_B_startPlay_71 : decode bb_B_startPlay 71 = .ok (.aload_n 0, 1) := by decide +kernel
theorem dd_B_startPlay_72 : decode bb_B_startPlay 72 = .ok (.getfield 10, 3) := by decide +kernel
theorem dd_B_startPlay_75 : decode bb_B_startPlay 75 = .ok (.aload_n 0, 1) := by decide +kernel
theorem dd_B_startPlay_76 : decode bb_B_startPlay 76 = .ok (.getfield 10, 3) := by decide +kernel
theorem dd_B_startPlay_79 : decode bb_B_startPlay 79 = .ok (.invokevirtual 110, 3) := by decide +kernel
theorem dd_B_startPlay_82 : decode bb_B_startPlay 82 = .ok (.invokevirtual 114, 3) := by decide +kernel
theorem dd_B_startPlay_85 : decode bb_B_startPlay 85 = .ok (.aload_n 0, 1) := by decide +kernel
theorem dd_B_startPlay_86 : decode bb_B_startPlay 86 = .ok (.iconst 1, 1) := by decide +kernel
theorem dd_B_startPlay_87 : decode bb_B_startPlay 87 = .ok (.putfield 44, 3) := by decide +kernel
theorem dd_B_startPlay_90 : decode bb_B_startPlay 90 = .ok (.return_, 1) := by decide +kernel
abbrev ty_B_startPlay : Type := Int32 × Int32 × Int32 × Int32 × (Nat → Int32) × (Nat → Int32) × Int32 × (Nat → Int64) × (Nat → Int32) × (Nat → Int32)
noncomputable def fn_B_startPlay (pl : Int32) (sd : Int32) (rt : Int32) (ps : Int32) (sq : Nat → Int32) (kg : Nat → Int32) (md : Int32) (bo : Nat → Int64) (ma : Nat → Int32) (qt : Nat → Int32) (a1 : Int32) (a2 : Int32) (a3 : Int32) : Option ty_B_startPlay := (fn_P_squareOf sq 6).bind fun r1 => qq_ck (qq_in 0 2) <| qq_let (upd kg (0 : Int32).toNatClampNeg r1) fun kg_3 => (fn_P_squareOf sq 12).bind fun r4 => qq_ck (qq_in 1 2) <| qq_let (upd kg_3 (1 : Int32).toNatClampNeg r4) fun kg_6 => (fn_H_start md qt).bind fun (md_7, qt_8) => (fn_P_passingMoves a1 a2 a3 sq kg_6).bind fun (r9, sd_10, rt_11, ps_12, sq_13, kg_14) => (fn_H_notePosition md_7 bo ma sd_10 rt_11 sq_13 r9).bind fun (bo_15, ma_16) => some (1, sd_10, rt_11, ps_12, sq_13, kg_14, md_7, bo_15, ma_16, qt_8)
abbrev rm_B_startPlay : Room := { frames := 5, cells := 0, slots := 0, locals := 117 }
set_option maxHeartbeats 4000000 in
set_option maxRecDepth 100000 in
theorem ct_B_startPlay (l : Launch) (dC : Nat → ClassId) (dI : Nat → Nat → Nat) (cI cL cR : ClassId) (oB oP osq okg oH obo oma oqt oyc oyb oW orc oS orows oR0 orc0 oR1 orc1 oR2 orc2 oR3 orc3 : Nat) (pl : Int32) (sd : Int32) (rt : Int32) (ps : Int32) (sq : Nat → Int32) (kg : Nat → Int32) (md : Int32) (bo : Nat → Int64) (ma : Nat → Int32) (qt : Nat → Int32) (yc : Nat → Int32) (yb : Nat → Int32) (rn : Int32) (rc : Nat → Int32) (rn0 : Int32) (rc0 : Nat → Int32) (rn1 : Int32) (rc1 : Nat → Int32) (rn2 : Int32) (rc2 : Nat → Int32) (rn3 : Int32) (rc3 : Nat → Int32) (a1 : Int32) (a2 : Int32) (a3 : Int32) {pl' : Int32} {sd' : Int32} {rt' : Int32} {ps' : Int32} {sq' : Nat → Int32} {kg' : Nat → Int32} {md' : Int32} {bo' : Nat → Int64} {ma' : Nat → Int32} {qt' : Nat → Int32} (hf : fn_B_startPlay pl sd rt ps sq kg md bo ma qt a1 a2 a3 = some (pl', sd', rt', ps', sq', kg', md', bo', ma', qt')) : qq_det l yy_B_startPlay (ww_of yy_B_startPlay bb_B_startPlay 4 none) rm_B_startPlay (dC, dI) (qq_ty cI cL cR) [.ref oB, .int a1, .int a2, .int a3] [(oB, .inr (0, [.ref oP, .ref oH, .ref oW, .ref oS, .int pl])), (oP, .inr (1, [.ref osq, .ref okg, .int sd, .int rt, .int ps])), (osq, .inl (cI, 64, .inl sq)), (okg, .inl (cI, 2, .inl kg)), (oH, .inr (3, [.ref obo, .ref oma, .ref oqt, .ref oyc, .ref oyb, .int md])), (obo, .inl (cL, 604, .inr (.inl bo))), (oma, .inl (cI, 151, .inl ma)), (oqt, .inl (cI, 151, .inl qt)), (oyc, .inl (cI, 150, .inl yc)), (oyb, .inl (cI, 150, .inl yb)), (oW, .inr (2, [.ref orc, .int rn])), (orc, .inl (cI, 415, .inl rc)), (oS, .inr (4, [.ref orows])), (orows, .inl (cR, 4, .inr (.inr (.inr (.inr (qq_rows oR0 oR1 oR2 oR3)))))), (oR0, .inr (2, [.ref orc0, .int rn0])), (orc0, .inl (cI, 415, .inl rc0)), (oR1, .inr (2, [.ref orc1, .int rn1])), (orc1, .inl (cI, 415, .inl rc1)), (oR2, .inr (2, [.ref orc2, .int rn2])), (orc2, .inl (cI, 415, .inl rc2)), (oR3, .inr (2, [.ref orc3, .int rn3])), (orc3, .inl (cI, 415, .inl rc3))] none [(oB, .inr (0, [.ref oP, .ref oH, .ref oW, .ref oS, .int pl'])), (oP, .inr (1, [.ref osq, .ref okg, .int sd', .int rt', .int ps'])), (osq, .inl (cI, 64, .inl sq')), (okg, .inl (cI, 2, .inl kg')), (oH, .inr (3, [.ref obo, .ref oma, .ref oqt, .ref oyc, .ref oyb, .int md'])), (obo, .inl (cL, 604, .inr (.inl bo'))), (oma, .inl (cI, 151, .inl ma')), (oqt, .inl (cI, 151, .inl qt')), (oyc, .inl (cI, 150, .inl yc)), (oyb, .inl (cI, 150, .inl yb)), (oW, .inr (2, [.ref orc, .int rn])), (orc, .inl (cI, 415, .inl rc)), (oS, .inr (4, [.ref orows])), (orows, .inl (cR, 4, .inr (.inr (.inr (.inr (qq_rows oR0 oR1 oR2 oR3)))))), (oR0, .inr (2, [.ref orc0, .int rn0])), (orc0, .inl (cI, 415, .inl rc0)), (oR1, .inr (2, [.ref orc1, .int rn1])), (orc1, .inl (cI, 415, .inl rc1)), (oR2, .inr (2, [.ref orc2, .int rn2])), (orc2, .inl (cI, 415, .inl rc2)), (oR3, .inr (2, [.ref orc3, .int rn3])), (orc3, .inl (cI, 415, .inl rc3))] := by
  refine qq_of (own := RR_B) (by decide) rfl (Nat.le_of_ble_eq_true rfl) ?_
  intro p e s m below meth c A Q ls hx hb hml hr hlocks hown hts hK hA hT hN hP hD hS hl hQ
  have hl : lv_has ls 4 [(0, .ref oB), (1, .int a1), (2, .int a2), (3, .int a3)] := hl
  rw [fn_B_startPlay] at hf
  refine lv_aload_n hx hb dd_B_startPlay_0 rfl (lv_at hl 0 rfl) ?_
  refine va_get (D := (dC, dI)) (ci := 0) (v := .ref oP) (C := RR_B) (T := FF_B) (N := 5) hx hb hts uu_B hown hK hP 0 rfl rfl 0 (by decide) (hts _ mm_4) (fun _ h9 => h9) rfl dd_B_startPlay_1 ?_
  refine lv_iload_n hx hb dd_B_startPlay_4 rfl (lv_at hl 1 rfl) ?_
  refine va_put (D := (dC, dI)) (ci := 1) (v := .int a1) (ty := .int) (C := RR_P) (T := FF_P) (N := 5) hx hb hts uu_P tt_P tt_P_ok nn_P hown hK hP hD hS 1 rfl rfl 2 (by decide) (hts _ mm_157) (fun _ h9 => h9) rfl (by decide +kernel) rfl rfl (Nat.le_of_ble_eq_true rfl) dd_B_startPlay_5 (fun H locs hP hD hS => ?_)
  have hP : va_P (dC, dI) classes [(oB, .inr (0, [.ref oP, .ref oH, .ref oW, .ref oS, .int pl])), (oP, .inr (1, [.ref osq, .ref okg, .int a1, .int rt, .int ps])), (osq, .inl (cI, 64, .inl sq)), (okg, .inl (cI, 2, .inl kg)), (oH, .inr (3, [.ref obo, .ref oma, .ref oqt, .ref oyc, .ref oyb, .int md])), (obo, .inl (cL, 604, .inr (.inl bo))), (oma, .inl (cI, 151, .inl ma)), (oqt, .inl (cI, 151, .inl qt)), (oyc, .inl (cI, 150, .inl yc)), (oyb, .inl (cI, 150, .inl yb)), (oW, .inr (2, [.ref orc, .int rn])), (orc, .inl (cI, 415, .inl rc)), (oS, .inr (4, [.ref orows])), (orows, .inl (cR, 4, .inr (.inr (.inr (.inr (qq_rows oR0 oR1 oR2 oR3)))))), (oR0, .inr (2, [.ref orc0, .int rn0])), (orc0, .inl (cI, 415, .inl rc0)), (oR1, .inr (2, [.ref orc1, .int rn1])), (orc1, .inl (cI, 415, .inl rc1)), (oR2, .inr (2, [.ref orc2, .int rn2])), (orc2, .inl (cI, 415, .inl rc2)), (oR3, .inr (2, [.ref orc3, .int rn3])), (orc3, .inl (cI, 415, .inl rc3))] H := hP
  have hD : va_D A [(oB, .inr (0, [.ref oP, .ref oH, .ref oW, .ref oS, .int pl])), (oP, .inr (1, [.ref osq, .ref okg, .int a1, .int rt, .int ps])), (osq, .inl (cI, 64, .inl sq)), (okg, .inl (cI, 2, .inl kg)), (oH, .inr (3, [.ref obo, .ref oma, .ref oqt, .ref oyc, .ref oyb, .int md])), (obo, .inl (cL, 604, .inr (.inl bo))), (oma, .inl (cI, 151, .inl ma)), (oqt, .inl (cI, 151, .inl qt)), (oyc, .inl (cI, 150, .inl yc)), (oyb, .inl (cI, 150, .inl yb)), (oW, .inr (2, [.ref orc, .int rn])), (orc, .inl (cI, 415, .inl rc)), (oS, .inr (4, [.ref orows])), (orows, .inl (cR, 4, .inr (.inr (.inr (.inr (qq_rows oR0 oR1 oR2 oR3)))))), (oR0, .inr (2, [.ref orc0, .int rn0])), (orc0, .inl (cI, 415, .inl rc0)), (oR1, .inr (2, [.ref orc1, .int rn1])), (orc1, .inl (cI, 415, .inl rc1)), (oR2, .inr (2, [.ref orc2, .int rn2])), (orc2, .inl (cI, 415, .inl rc2)), (oR3, .inr (2, [.ref orc3, .int rn3])), (orc3, .inl (cI, 415, .inl rc3))] := hD
  refine lv_aload_n hx hb dd_B_startPlay_8 rfl (lv_at hl 0 rfl) ?_
  refine va_get (D := (dC, dI)) (ci := 0) (v := .ref oP) (C := RR_B) (T := FF_B) (N := 5) hx hb hts uu_B hown hK hP 0 rfl rfl 0 (by decide) (hts _ mm_4) (fun _ h9 => h9) rfl dd_B_startPlay_9 ?_
  refine lv_iload_n hx hb dd_B_startPlay_12 rfl (lv_at hl 2 rfl) ?_
  refine va_put (D := (dC, dI)) (ci := 1) (v := .int a2) (ty := .int) (C := RR_P) (T := FF_P) (N := 5) hx hb hts uu_P tt_P tt_P_ok nn_P hown hK hP hD hS 1 rfl rfl 3 (by decide) (hts _ mm_156) (fun _ h9 => h9) rfl (by decide +kernel) rfl rfl (Nat.le_of_ble_eq_true rfl) dd_B_startPlay_13 (fun H locs hP hD hS => ?_)
  have hP : va_P (dC, dI) classes [(oB, .inr (0, [.ref oP, .ref oH, .ref oW, .ref oS, .int pl])), (oP, .inr (1, [.ref osq, .ref okg, .int a1, .int a2, .int ps])), (osq, .inl (cI, 64, .inl sq)), (okg, .inl (cI, 2, .inl kg)), (oH, .inr (3, [.ref obo, .ref oma, .ref oqt, .ref oyc, .ref oyb, .int md])), (obo, .inl (cL, 604, .inr (.inl bo))), (oma, .inl (cI, 151, .inl ma)), (oqt, .inl (cI, 151, .inl qt)), (oyc, .inl (cI, 150, .inl yc)), (oyb, .inl (cI, 150, .inl yb)), (oW, .inr (2, [.ref orc, .int rn])), (orc, .inl (cI, 415, .inl rc)), (oS, .inr (4, [.ref orows])), (orows, .inl (cR, 4, .inr (.inr (.inr (.inr (qq_rows oR0 oR1 oR2 oR3)))))), (oR0, .inr (2, [.ref orc0, .int rn0])), (orc0, .inl (cI, 415, .inl rc0)), (oR1, .inr (2, [.ref orc1, .int rn1])), (orc1, .inl (cI, 415, .inl rc1)), (oR2, .inr (2, [.ref orc2, .int rn2])), (orc2, .inl (cI, 415, .inl rc2)), (oR3, .inr (2, [.ref orc3, .int rn3])), (orc3, .inl (cI, 415, .inl rc3))] H := hP
  have hD : va_D A [(oB, .inr (0, [.ref oP, .ref oH, .ref oW, .ref oS, .int pl])), (oP, .inr (1, [.ref osq, .ref okg, .int a1, .int a2, .int ps])), (osq, .inl (cI, 64, .inl sq)), (okg, .inl (cI, 2, .inl kg)), (oH, .inr (3, [.ref obo, .ref oma, .ref oqt, .ref oyc, .ref oyb, .int md])), (obo, .inl (cL, 604, .inr (.inl bo))), (oma, .inl (cI, 151, .inl ma)), (oqt, .inl (cI, 151, .inl qt)), (oyc, .inl (cI, 150, .inl yc)), (oyb, .inl (cI, 150, .inl yb)), (oW, .inr (2, [.ref orc, .int rn])), (orc, .inl (cI, 415, .inl rc)), (oS, .inr (4, [.ref orows])), (orows, .inl (cR, 4, .inr (.inr (.inr (.inr (qq_rows oR0 oR1 oR2 oR3)))))), (oR0, .inr (2, [.ref orc0, .int rn0])), (orc0, .inl (cI, 415, .inl rc0)), (oR1, .inr (2, [.ref orc1, .int rn1])), (orc1, .inl (cI, 415, .inl rc1)), (oR2, .inr (2, [.ref orc2, .int rn2])), (orc2, .inl (cI, 415, .inl rc2)), (oR3, .inr (2, [.ref orc3, .int rn3])), (orc3, .inl (cI, 415, .inl rc3))] := hD
  refine lv_aload_n hx hb dd_B_startPlay_16 rfl (lv_at hl 0 rfl) ?_
  refine va_get (D := (dC, dI)) (ci := 0) (v := .ref oP) (C := RR_B) (T := FF_B) (N := 5) hx hb hts uu_B hown hK hP 0 rfl rfl 0 (by decide) (hts _ mm_4) (fun _ h9 => h9) rfl dd_B_startPlay_17 ?_
  refine lv_iload_n hx hb dd_B_startPlay_20 rfl (lv_at hl 3 rfl) ?_
  refine va_put (D := (dC, dI)) (ci := 1) (v := .int a3) (ty := .int) (C := RR_P) (T := FF_P) (N := 5) hx hb hts uu_P tt_P tt_P_ok nn_P hown hK hP hD hS 1 rfl rfl 4 (by decide) (hts _ mm_155) (fun _ h9 => h9) rfl (by decide +kernel) rfl rfl (Nat.le_of_ble_eq_true rfl) dd_B_startPlay_21 (fun H locs hP hD hS => ?_)
  have hP : va_P (dC, dI) classes [(oB, .inr (0, [.ref oP, .ref oH, .ref oW, .ref oS, .int pl])), (oP, .inr (1, [.ref osq, .ref okg, .int a1, .int a2, .int a3])), (osq, .inl (cI, 64, .inl sq)), (okg, .inl (cI, 2, .inl kg)), (oH, .inr (3, [.ref obo, .ref oma, .ref oqt, .ref oyc, .ref oyb, .int md])), (obo, .inl (cL, 604, .inr (.inl bo))), (oma, .inl (cI, 151, .inl ma)), (oqt, .inl (cI, 151, .inl qt)), (oyc, .inl (cI, 150, .inl yc)), (oyb, .inl (cI, 150, .inl yb)), (oW, .inr (2, [.ref orc, .int rn])), (orc, .inl (cI, 415, .inl rc)), (oS, .inr (4, [.ref orows])), (orows, .inl (cR, 4, .inr (.inr (.inr (.inr (qq_rows oR0 oR1 oR2 oR3)))))), (oR0, .inr (2, [.ref orc0, .int rn0])), (orc0, .inl (cI, 415, .inl rc0)), (oR1, .inr (2, [.ref orc1, .int rn1])), (orc1, .inl (cI, 415, .inl rc1)), (oR2, .inr (2, [.ref orc2, .int rn2])), (orc2, .inl (cI, 415, .inl rc2)), (oR3, .inr (2, [.ref orc3, .int rn3])), (orc3, .inl (cI, 415, .inl rc3))] H := hP
  have hD : va_D A [(oB, .inr (0, [.ref oP, .ref oH, .ref oW, .ref oS, .int pl])), (oP, .inr (1, [.ref osq, .ref okg, .int a1, .int a2, .int a3])), (osq, .inl (cI, 64, .inl sq)), (okg, .inl (cI, 2, .inl kg)), (oH, .inr (3, [.ref obo, .ref oma, .ref oqt, .ref oyc, .ref oyb, .int md])), (obo, .inl (cL, 604, .inr (.inl bo))), (oma, .inl (cI, 151, .inl ma)), (oqt, .inl (cI, 151, .inl qt)), (oyc, .inl (cI, 150, .inl yc)), (oyb, .inl (cI, 150, .inl yb)), (oW, .inr (2, [.ref orc, .int rn])), (orc, .inl (cI, 415, .inl rc)), (oS, .inr (4, [.ref orows])), (orows, .inl (cR, 4, .inr (.inr (.inr (.inr (qq_rows oR0 oR1 oR2 oR3)))))), (oR0, .inr (2, [.ref orc0, .int rn0])), (orc0, .inl (cI, 415, .inl rc0)), (oR1, .inr (2, [.ref orc1, .int rn1])), (orc1, .inl (cI, 415, .inl rc1)), (oR2, .inr (2, [.ref orc2, .int rn2])), (orc2, .inl (cI, 415, .inl rc2)), (oR3, .inr (2, [.ref orc3, .int rn3])), (orc3, .inl (cI, 415, .inl rc3))] := hD
  refine lv_aload_n hx hb dd_B_startPlay_24 rfl (lv_at hl 0 rfl) ?_
  refine va_get (D := (dC, dI)) (ci := 0) (v := .ref oP) (C := RR_B) (T := FF_B) (N := 5) hx hb hts uu_B hown hK hP 0 rfl rfl 0 (by decide) (hts _ mm_4) (fun _ h9 => h9) rfl dd_B_startPlay_25 ?_
  refine va_get (D := (dC, dI)) (ci := 1) (v := .ref okg) (C := RR_P) (T := FF_P) (N := 5) hx hb hts uu_P hown hK hP 1 rfl rfl 1 (by decide) (hts _ mm_169) (fun _ h9 => h9) rfl dd_B_startPlay_28 ?_
  refine lv_iconst (v := 0) hx hb dd_B_startPlay_31 (by decide) ?_
  refine lv_aload_n hx hb dd_B_startPlay_32 rfl (lv_at hl 0 rfl) ?_
  refine va_get (D := (dC, dI)) (ci := 0) (v := .ref oP) (C := RR_B) (T := FF_B) (N := 5) hx hb hts uu_B hown hK hP 0 rfl rfl 0 (by decide) (hts _ mm_4) (fun _ h9 => h9) rfl dd_B_startPlay_33 ?_
  refine lv_bipush (v := 6) hx hb dd_B_startPlay_36 (by decide) ?_
  obtain ⟨r1, hy1, hf⟩ := qq_bd hf
  refine qq_V (As := [.int 6]) (rest := [.int 0, .ref okg]) (wr := [(oB, .inr (0, [.ref oP, .ref oH, .ref oW, .ref oS, .int pl])), (oH, .inr (3, [.ref obo, .ref oma, .ref oqt, .ref oyc, .ref oyb, .int md])), (obo, .inl (cL, 604, .inr (.inl bo))), (oma, .inl (cI, 151, .inl ma)), (oqt, .inl (cI, 151, .inl qt)), (oyc, .inl (cI, 150, .inl yc)), (oyb, .inl (cI, 150, .inl yb)), (oW, .inr (2, [.ref orc, .int rn])), (orc, .inl (cI, 415, .inl rc)), (oS, .inr (4, [.ref orows])), (orows, .inl (cR, 4, .inr (.inr (.inr (.inr (qq_rows oR0 oR1 oR2 oR3)))))), (oR0, .inr (2, [.ref orc0, .int rn0])), (orc0, .inl (cI, 415, .inl rc0)), (oR1, .inr (2, [.ref orc1, .int rn1])), (orc1, .inl (cI, 415, .inl rc1)), (oR2, .inr (2, [.ref orc2, .int rn2])), (orc2, .inl (cI, 415, .inl rc2)), (oR3, .inr (2, [.ref orc3, .int rn3])), (orc3, .inl (cI, 415, .inl rc3))]) (wf := [(oB, .inr (0, [.ref oP, .ref oH, .ref oW, .ref oS, .int pl])), (oP, .inr (1, [.ref osq, .ref okg, .int a1, .int a2, .int a3])), (osq, .inl (cI, 64, .inl sq)), (okg, .inl (cI, 2, .inl kg)), (oH, .inr (3, [.ref obo, .ref oma, .ref oqt, .ref oyc, .ref oyb, .int md])), (obo, .inl (cL, 604, .inr (.inl bo))), (oma, .inl (cI, 151, .inl ma)), (oqt, .inl (cI, 151, .inl qt)), (oyc, .inl (cI, 150, .inl yc)), (oyb, .inl (cI, 150, .inl yb)), (oW, .inr (2, [.ref orc, .int rn])), (orc, .inl (cI, 415, .inl rc)), (oS, .inr (4, [.ref orows])), (orows, .inl (cR, 4, .inr (.inr (.inr (.inr (qq_rows oR0 oR1 oR2 oR3)))))), (oR0, .inr (2, [.ref orc0, .int rn0])), (orc0, .inl (cI, 415, .inl rc0)), (oR1, .inr (2, [.ref orc1, .int rn1])), (orc1, .inl (cI, 415, .inl rc1)), (oR2, .inr (2, [.ref orc2, .int rn2])), (orc2, .inl (cI, 415, .inl rc2)), (oR3, .inr (2, [.ref orc3, .int rn3])), (orc3, .inl (cI, 415, .inl rc3))]) ⟨hx, hb, hml, hown, hts⟩ (ct_P_squareOf l dC dI cI cL cR oP osq okg a1 a2 a3 sq kg 6 hy1) mm_171 mm_172 mm_173 mm_170 mm_15 hd_P_squareOf (by decide) qq_00 hP hD hK hS hA hT hN (q0 := 1) (ci := 1) rfl rfl [1, 2, 3] [0, 4, 5, 6, 7, 8, 9, 10, 11, 12, 13, 14, 15, 16, 17, 18, 19, 20, 21] [0, 19, 20, 21, 1, 2, 3, 4, 5, 6, 7, 8, 9, 10, 11, 12, 13, 14, 15, 16, 17, 18] rfl rfl rfl (by decide) rfl hl.1 rfl (Nat.le_of_ble_eq_true rfl) dd_B_startPlay_38 (fun H locs hP hD hS => ?_)
  refine W.eq (g2 := F0 m 41 ls [.int r1, .int 0, .ref okg]) rfl ?_
  obtain ⟨hi2, hf⟩ := qq_ckE hf
  refine va_iast (D := (dC, dI)) (f := kg) (n := 2) (cA := cI) hx hb hK hP hD hS 3 0 rfl rfl (qq_inE hi2) dd_B_startPlay_41 (fun H locs hP hD hS => ?_)
  obtain ⟨kg_3, ekg_3⟩ : ∃ z, z = upd kg (0 : Int32).toNatClampNeg r1 := ⟨_, rfl⟩
  replace hf := qq_lt ekg_3 hf
  have hP : va_P (dC, dI) classes [(oB, .inr (0, [.ref oP, .ref oH, .ref oW, .ref oS, .int pl])), (oP, .inr (1, [.ref osq, .ref okg, .int a1, .int a2, .int a3])), (osq, .inl (cI, 64, .inl sq)), (okg, .inl (cI, 2, .inl kg_3)), (oH, .inr (3, [.ref obo, .ref oma, .ref oqt, .ref oyc, .ref oyb, .int md])), (obo, .inl (cL, 604, .inr (.inl bo))), (oma, .inl (cI, 151, .inl ma)), (oqt, .inl (cI, 151, .inl qt)), (oyc, .inl (cI, 150, .inl yc)), (oyb, .inl (cI, 150, .inl yb)), (oW, .inr (2, [.ref orc, .int rn])), (orc, .inl (cI, 415, .inl rc)), (oS, .inr (4, [.ref orows])), (orows, .inl (cR, 4, .inr (.inr (.inr (.inr (qq_rows oR0 oR1 oR2 oR3)))))), (oR0, .inr (2, [.ref orc0, .int rn0])), (orc0, .inl (cI, 415, .inl rc0)), (oR1, .inr (2, [.ref orc1, .int rn1])), (orc1, .inl (cI, 415, .inl rc1)), (oR2, .inr (2, [.ref orc2, .int rn2])), (orc2, .inl (cI, 415, .inl rc2)), (oR3, .inr (2, [.ref orc3, .int rn3])), (orc3, .inl (cI, 415, .inl rc3))] H := by rw [ekg_3]; exact hP
  have hD : va_D A [(oB, .inr (0, [.ref oP, .ref oH, .ref oW, .ref oS, .int pl])), (oP, .inr (1, [.ref osq, .ref okg, .int a1, .int a2, .int a3])), (osq, .inl (cI, 64, .inl sq)), (okg, .inl (cI, 2, .inl kg_3)), (oH, .inr (3, [.ref obo, .ref oma, .ref oqt, .ref oyc, .ref oyb, .int md])), (obo, .inl (cL, 604, .inr (.inl bo))), (oma, .inl (cI, 151, .inl ma)), (oqt, .inl (cI, 151, .inl qt)), (oyc, .inl (cI, 150, .inl yc)), (oyb, .inl (cI, 150, .inl yb)), (oW, .inr (2, [.ref orc, .int rn])), (orc, .inl (cI, 415, .inl rc)), (oS, .inr (4, [.ref orows])), (orows, .inl (cR, 4, .inr (.inr (.inr (.inr (qq_rows oR0 oR1 oR2 oR3)))))), (oR0, .inr (2, [.ref orc0, .int rn0])), (orc0, .inl (cI, 415, .inl rc0)), (oR1, .inr (2, [.ref orc1, .int rn1])), (orc1, .inl (cI, 415, .inl rc1)), (oR2, .inr (2, [.ref orc2, .int rn2])), (orc2, .inl (cI, 415, .inl rc2)), (oR3, .inr (2, [.ref orc3, .int rn3])), (orc3, .inl (cI, 415, .inl rc3))] := by rw [ekg_3]; exact hD
  refine lv_aload_n hx hb dd_B_startPlay_42 rfl (lv_at hl 0 rfl) ?_
  refine va_get (D := (dC, dI)) (ci := 0) (v := .ref oP) (C := RR_B) (T := FF_B) (N := 5) hx hb hts uu_B hown hK hP 0 rfl rfl 0 (by decide) (hts _ mm_4) (fun _ h9 => h9) rfl dd_B_startPlay_43 ?_
  refine va_get (D := (dC, dI)) (ci := 1) (v := .ref okg) (C := RR_P) (T := FF_P) (N := 5) hx hb hts uu_P hown hK hP 1 rfl rfl 1 (by decide) (hts _ mm_169) (fun _ h9 => h9) rfl dd_B_startPlay_46 ?_
  refine lv_iconst (v := 1) hx hb dd_B_startPlay_49 (by decide) ?_
  refine lv_aload_n hx hb dd_B_startPlay_50 rfl (lv_at hl 0 rfl) ?_
  refine va_get (D := (dC, dI)) (ci := 0) (v := .ref oP) (C := RR_B) (T := FF_B) (N := 5) hx hb hts uu_B hown hK hP 0 rfl rfl 0 (by decide) (hts _ mm_4) (fun _ h9 => h9) rfl dd_B_startPlay_51 ?_
  refine lv_bipush (v := 12) hx hb dd_B_startPlay_54 (by decide) ?_
  obtain ⟨r4, hy4, hf⟩ := qq_bd hf
  refine qq_V (As := [.int 12]) (rest := [.int 1, .ref okg]) (wr := [(oB, .inr (0, [.ref oP, .ref oH, .ref oW, .ref oS, .int pl])), (oH, .inr (3, [.ref obo, .ref oma, .ref oqt, .ref oyc, .ref oyb, .int md])), (obo, .inl (cL, 604, .inr (.inl bo))), (oma, .inl (cI, 151, .inl ma)), (oqt, .inl (cI, 151, .inl qt)), (oyc, .inl (cI, 150, .inl yc)), (oyb, .inl (cI, 150, .inl yb)), (oW, .inr (2, [.ref orc, .int rn])), (orc, .inl (cI, 415, .inl rc)), (oS, .inr (4, [.ref orows])), (orows, .inl (cR, 4, .inr (.inr (.inr (.inr (qq_rows oR0 oR1 oR2 oR3)))))), (oR0, .inr (2, [.ref orc0, .int rn0])), (orc0, .inl (cI, 415, .inl rc0)), (oR1, .inr (2, [.ref orc1, .int rn1])), (orc1, .inl (cI, 415, .inl rc1)), (oR2, .inr (2, [.ref orc2, .int rn2])), (orc2, .inl (cI, 415, .inl rc2)), (oR3, .inr (2, [.ref orc3, .int rn3])), (orc3, .inl (cI, 415, .inl rc3))]) (wf := [(oB, .inr (0, [.ref oP, .ref oH, .ref oW, .ref oS, .int pl])), (oP, .inr (1, [.ref osq, .ref okg, .int a1, .int a2, .int a3])), (osq, .inl (cI, 64, .inl sq)), (okg, .inl (cI, 2, .inl kg_3)), (oH, .inr (3, [.ref obo, .ref oma, .ref oqt, .ref oyc, .ref oyb, .int md])), (obo, .inl (cL, 604, .inr (.inl bo))), (oma, .inl (cI, 151, .inl ma)), (oqt, .inl (cI, 151, .inl qt)), (oyc, .inl (cI, 150, .inl yc)), (oyb, .inl (cI, 150, .inl yb)), (oW, .inr (2, [.ref orc, .int rn])), (orc, .inl (cI, 415, .inl rc)), (oS, .inr (4, [.ref orows])), (orows, .inl (cR, 4, .inr (.inr (.inr (.inr (qq_rows oR0 oR1 oR2 oR3)))))), (oR0, .inr (2, [.ref orc0, .int rn0])), (orc0, .inl (cI, 415, .inl rc0)), (oR1, .inr (2, [.ref orc1, .int rn1])), (orc1, .inl (cI, 415, .inl rc1)), (oR2, .inr (2, [.ref orc2, .int rn2])), (orc2, .inl (cI, 415, .inl rc2)), (oR3, .inr (2, [.ref orc3, .int rn3])), (orc3, .inl (cI, 415, .inl rc3))]) ⟨hx, hb, hml, hown, hts⟩ (ct_P_squareOf l dC dI cI cL cR oP osq okg a1 a2 a3 sq kg_3 12 hy4) mm_171 mm_172 mm_173 mm_170 mm_15 hd_P_squareOf (by decide) qq_00 hP hD hK hS hA hT hN (q0 := 1) (ci := 1) rfl rfl [1, 2, 3] [0, 4, 5, 6, 7, 8, 9, 10, 11, 12, 13, 14, 15, 16, 17, 18, 19, 20, 21] [0, 19, 20, 21, 1, 2, 3, 4, 5, 6, 7, 8, 9, 10, 11, 12, 13, 14, 15, 16, 17, 18] rfl rfl rfl (by decide) rfl hl.1 rfl (Nat.le_of_ble_eq_true rfl) dd_B_startPlay_56 (fun H locs hP hD hS => ?_)
  refine W.eq (g2 := F0 m 59 ls [.int r4, .int 1, .ref okg]) rfl ?_
  obtain ⟨hi5, hf⟩ := qq_ckE hf
  refine va_iast (D := (dC, dI)) (f := kg_3) (n := 2) (cA := cI) hx hb hK hP hD hS 3 0 rfl rfl (qq_inE hi5) dd_B_startPlay_59 (fun H locs hP hD hS => ?_)
  obtain ⟨kg_6, ekg_6⟩ : ∃ z, z = upd kg_3 (1 : Int32).toNatClampNeg r4 := ⟨_, rfl⟩
  replace hf := qq_lt ekg_6 hf
  have hP : va_P (dC, dI) classes [(oB, .inr (0, [.ref oP, .ref oH, .ref oW, .ref oS, .int pl])), (oP, .inr (1, [.ref osq, .ref okg, .int a1, .int a2, .int a3])), (osq, .inl (cI, 64, .inl sq)), (okg, .inl (cI, 2, .inl kg_6)), (oH, .inr (3, [.ref obo, .ref oma, .ref oqt, .ref oyc, .ref oyb, .int md])), (obo, .inl (cL, 604, .inr (.inl bo))), (oma, .inl (cI, 151, .inl ma)), (oqt, .inl (cI, 151, .inl qt)), (oyc, .inl (cI, 150, .inl yc)), (oyb, .inl (cI, 150, .inl yb)), (oW, .inr (2, [.ref orc, .int rn])), (orc, .inl (cI, 415, .inl rc)), (oS, .inr (4, [.ref orows])), (orows, .inl (cR, 4, .inr (.inr (.inr (.inr (qq_rows oR0 oR1 oR2 oR3)))))), (oR0, .inr (2, [.ref orc0, .int rn0])), (orc0, .inl (cI, 415, .inl rc0)), (oR1, .inr (2, [.ref orc1, .int rn1])), (orc1, .inl (cI, 415, .inl rc1)), (oR2, .inr (2, [.ref orc2, .int rn2])), (orc2, .inl (cI, 415, .inl rc2)), (oR3, .inr (2, [.ref orc3, .int rn3])), (orc3, .inl (cI, 415, .inl rc3))] H := by rw [ekg_6]; exact hP
  have hD : va_D A [(oB, .inr (0, [.ref oP, .ref oH, .ref oW, .ref oS, .int pl])), (oP, .inr (1, [.ref osq, .ref okg, .int a1, .int a2, .int a3])), (osq, .inl (cI, 64, .inl sq)), (okg, .inl (cI, 2, .inl kg_6)), (oH, .inr (3, [.ref obo, .ref oma, .ref oqt, .ref oyc, .ref oyb, .int md])), (obo, .inl (cL, 604, .inr (.inl bo))), (oma, .inl (cI, 151, .inl ma)), (oqt, .inl (cI, 151, .inl qt)), (oyc, .inl (cI, 150, .inl yc)), (oyb, .inl (cI, 150, .inl yb)), (oW, .inr (2, [.ref orc, .int rn])), (orc, .inl (cI, 415, .inl rc)), (oS, .inr (4, [.ref orows])), (orows, .inl (cR, 4, .inr (.inr (.inr (.inr (qq_rows oR0 oR1 oR2 oR3)))))), (oR0, .inr (2, [.ref orc0, .int rn0])), (orc0, .inl (cI, 415, .inl rc0)), (oR1, .inr (2, [.ref orc1, .int rn1])), (orc1, .inl (cI, 415, .inl rc1)), (oR2, .inr (2, [.ref orc2, .int rn2])), (orc2, .inl (cI, 415, .inl rc2)), (oR3, .inr (2, [.ref orc3, .int rn3])), (orc3, .inl (cI, 415, .inl rc3))] := by rw [ekg_6]; exact hD
  refine lv_aload_n hx hb dd_B_startPlay_60 rfl (lv_at hl 0 rfl) ?_
  refine va_get (D := (dC, dI)) (ci := 0) (v := .ref oH) (C := RR_B) (T := FF_B) (N := 5) hx hb hts uu_B hown hK hP 0 rfl rfl 1 (by decide) (hts _ mm_153) (fun _ h9 => h9) rfl dd_B_startPlay_61 ?_
  obtain ⟨⟨md_7, qt_8⟩, hy8, hf⟩ := qq_bd hf
  dsimp only at hf
  refine qq_V (As := []) (rest := []) (wr := [(oB, .inr (0, [.ref oP, .ref oH, .ref oW, .ref oS, .int pl])), (oP, .inr (1, [.ref osq, .ref okg, .int a1, .int a2, .int a3])), (osq, .inl (cI, 64, .inl sq)), (okg, .inl (cI, 2, .inl kg_6)), (oW, .inr (2, [.ref orc, .int rn])), (orc, .inl (cI, 415, .inl rc)), (oS, .inr (4, [.ref orows])), (orows, .inl (cR, 4, .inr (.inr (.inr (.inr (qq_rows oR0 oR1 oR2 oR3)))))), (oR0, .inr (2, [.ref orc0, .int rn0])), (orc0, .inl (cI, 415, .inl rc0)), (oR1, .inr (2, [.ref orc1, .int rn1])), (orc1, .inl (cI, 415, .inl rc1)), (oR2, .inr (2, [.ref orc2, .int rn2])), (orc2, .inl (cI, 415, .inl rc2)), (oR3, .inr (2, [.ref orc3, .int rn3])), (orc3, .inl (cI, 415, .inl rc3))]) (wf := [(oB, .inr (0, [.ref oP, .ref oH, .ref oW, .ref oS, .int pl])), (oP, .inr (1, [.ref osq, .ref okg, .int a1, .int a2, .int a3])), (osq, .inl (cI, 64, .inl sq)), (okg, .inl (cI, 2, .inl kg_6)), (oH, .inr (3, [.ref obo, .ref oma, .ref oqt, .ref oyc, .ref oyb, .int md_7])), (obo, .inl (cL, 604, .inr (.inl bo))), (oma, .inl (cI, 151, .inl ma)), (oqt, .inl (cI, 151, .inl qt_8)), (oyc, .inl (cI, 150, .inl yc)), (oyb, .inl (cI, 150, .inl yb)), (oW, .inr (2, [.ref orc, .int rn])), (orc, .inl (cI, 415, .inl rc)), (oS, .inr (4, [.ref orows])), (orows, .inl (cR, 4, .inr (.inr (.inr (.inr (qq_rows oR0 oR1 oR2 oR3)))))), (oR0, .inr (2, [.ref orc0, .int rn0])), (orc0, .inl (cI, 415, .inl rc0)), (oR1, .inr (2, [.ref orc1, .int rn1])), (orc1, .inl (cI, 415, .inl rc1)), (oR2, .inr (2, [.ref orc2, .int rn2])), (orc2, .inl (cI, 415, .inl rc2)), (oR3, .inr (2, [.ref orc3, .int rn3])), (orc3, .inl (cI, 415, .inl rc3))]) ⟨hx, hb, hml, hown, hts⟩ (ct_H_start l dC dI cI cL cR oH obo oma oqt oyc oyb md bo ma qt yc yb hy8) mm_175 mm_176 mm_177 mm_174 mm_163 hd_H_start (by decide) qq_00 hP hD hK hS hA hT hN (q0 := 4) (ci := 3) rfl rfl [4, 5, 6, 7, 8, 9] [0, 1, 2, 3, 10, 11, 12, 13, 14, 15, 16, 17, 18, 19, 20, 21] [0, 1, 2, 3, 16, 17, 18, 19, 20, 21, 4, 5, 6, 7, 8, 9, 10, 11, 12, 13, 14, 15] rfl rfl rfl (by decide) rfl hl.1 rfl (Nat.le_of_ble_eq_true rfl) dd_B_startPlay_64 (fun H locs hP hD hS => ?_)
  refine W.eq (g2 := F0 m 67 ls []) rfl ?_
  refine lv_aload_n hx hb dd_B_startPlay_67 rfl (lv_at hl 0 rfl) ?_
  refine va_get (D := (dC, dI)) (ci := 0) (v := .ref oH) (C := RR_B) (T := FF_B) (N := 5) hx hb hts uu_B hown hK hP 0 rfl rfl 1 (by decide) (hts _ mm_153) (fun _ h9 => h9) rfl dd_B_startPlay_68 ?_
  refine lv_aload_n hx hb dd_B_startPlay_71 rfl (lv_at hl 0 rfl) ?_
  refine va_get (D := (dC, dI)) (ci := 0) (v := .ref oP) (C := RR_B) (T := FF_B) (N := 5) hx hb hts uu_B hown hK hP 0 rfl rfl 0 (by decide) (hts _ mm_4) (fun _ h9 => h9) rfl dd_B_startPlay_72 ?_
  refine lv_aload_n hx hb dd_B_startPlay_75 rfl (lv_at hl 0 rfl) ?_
  refine va_get (D := (dC, dI)) (ci := 0) (v := .ref oP) (C := RR_B) (T := FF_B) (N := 5) hx hb hts uu_B hown hK hP 0 rfl rfl 0 (by decide) (hts _ mm_4) (fun _ h9 => h9) rfl dd_B_startPlay_76 ?_
  obtain ⟨⟨r9, sd_10, rt_11, ps_12, sq_13, kg_14⟩, hy14, hf⟩ := qq_bd hf
  dsimp only at hf
  refine qq_V (As := []) (rest := [.ref oP, .ref oH]) (wr := [(oB, .inr (0, [.ref oP, .ref oH, .ref oW, .ref oS, .int pl])), (oH, .inr (3, [.ref obo, .ref oma, .ref oqt, .ref oyc, .ref oyb, .int md_7])), (obo, .inl (cL, 604, .inr (.inl bo))), (oma, .inl (cI, 151, .inl ma)), (oqt, .inl (cI, 151, .inl qt_8)), (oyc, .inl (cI, 150, .inl yc)), (oyb, .inl (cI, 150, .inl yb)), (oW, .inr (2, [.ref orc, .int rn])), (orc, .inl (cI, 415, .inl rc)), (oS, .inr (4, [.ref orows])), (orows, .inl (cR, 4, .inr (.inr (.inr (.inr (qq_rows oR0 oR1 oR2 oR3)))))), (oR0, .inr (2, [.ref orc0, .int rn0])), (orc0, .inl (cI, 415, .inl rc0)), (oR1, .inr (2, [.ref orc1, .int rn1])), (orc1, .inl (cI, 415, .inl rc1)), (oR2, .inr (2, [.ref orc2, .int rn2])), (orc2, .inl (cI, 415, .inl rc2)), (oR3, .inr (2, [.ref orc3, .int rn3])), (orc3, .inl (cI, 415, .inl rc3))]) (wf := [(oB, .inr (0, [.ref oP, .ref oH, .ref oW, .ref oS, .int pl])), (oP, .inr (1, [.ref osq, .ref okg, .int sd_10, .int rt_11, .int ps_12])), (osq, .inl (cI, 64, .inl sq_13)), (okg, .inl (cI, 2, .inl kg_14)), (oH, .inr (3, [.ref obo, .ref oma, .ref oqt, .ref oyc, .ref oyb, .int md_7])), (obo, .inl (cL, 604, .inr (.inl bo))), (oma, .inl (cI, 151, .inl ma)), (oqt, .inl (cI, 151, .inl qt_8)), (oyc, .inl (cI, 150, .inl yc)), (oyb, .inl (cI, 150, .inl yb)), (oW, .inr (2, [.ref orc, .int rn])), (orc, .inl (cI, 415, .inl rc)), (oS, .inr (4, [.ref orows])), (orows, .inl (cR, 4, .inr (.inr (.inr (.inr (qq_rows oR0 oR1 oR2 oR3)))))), (oR0, .inr (2, [.ref orc0, .int rn0])), (orc0, .inl (cI, 415, .inl rc0)), (oR1, .inr (2, [.ref orc1, .int rn1])), (orc1, .inl (cI, 415, .inl rc1)), (oR2, .inr (2, [.ref orc2, .int rn2])), (orc2, .inl (cI, 415, .inl rc2)), (oR3, .inr (2, [.ref orc3, .int rn3])), (orc3, .inl (cI, 415, .inl rc3))]) ⟨hx, hb, hml, hown, hts⟩ (ct_P_passingMoves l dC dI cI cL cR oP osq okg a1 a2 a3 sq kg_6 hy14) mm_179 mm_180 mm_181 mm_178 mm_15 hd_P_passingMoves (by decide) qq_00 hP hD hK hS hA hT hN (q0 := 1) (ci := 1) rfl rfl [1, 2, 3] [0, 4, 5, 6, 7, 8, 9, 10, 11, 12, 13, 14, 15, 16, 17, 18, 19, 20, 21] [0, 19, 20, 21, 1, 2, 3, 4, 5, 6, 7, 8, 9, 10, 11, 12, 13, 14, 15, 16, 17, 18] rfl rfl rfl (by decide) rfl hl.1 rfl (Nat.le_of_ble_eq_true rfl) dd_B_startPlay_79 (fun H locs hP hD hS => ?_)
  refine W.eq (g2 := F0 m 82 ls [.int r9, .ref oP, .ref oH]) rfl ?_
  obtain ⟨⟨bo_15, ma_16⟩, hy16, hf⟩ := qq_bd hf
  dsimp only at hf
  refine qq_V (As := [.ref oP, .int r9]) (rest := []) (wr := [(oB, .inr (0, [.ref oP, .ref oH, .ref oW, .ref oS, .int pl])), (oW, .inr (2, [.ref orc, .int rn])), (orc, .inl (cI, 415, .inl rc)), (oS, .inr (4, [.ref orows])), (orows, .inl (cR, 4, .inr (.inr (.inr (.inr (qq_rows oR0 oR1 oR2 oR3)))))), (oR0, .inr (2, [.ref orc0, .int rn0])), (orc0, .inl (cI, 415, .inl rc0)), (oR1, .inr (2, [.ref orc1, .int rn1])), (orc1, .inl (cI, 415, .inl rc1)), (oR2, .inr (2, [.ref orc2, .int rn2])), (orc2, .inl (cI, 415, .inl rc2)), (oR3, .inr (2, [.ref orc3, .int rn3])), (orc3, .inl (cI, 415, .inl rc3))]) (wf := [(oB, .inr (0, [.ref oP, .ref oH, .ref oW, .ref oS, .int pl])), (oP, .inr (1, [.ref osq, .ref okg, .int sd_10, .int rt_11, .int ps_12])), (osq, .inl (cI, 64, .inl sq_13)), (okg, .inl (cI, 2, .inl kg_14)), (oH, .inr (3, [.ref obo, .ref oma, .ref oqt, .ref oyc, .ref oyb, .int md_7])), (obo, .inl (cL, 604, .inr (.inl bo_15))), (oma, .inl (cI, 151, .inl ma_16)), (oqt, .inl (cI, 151, .inl qt_8)), (oyc, .inl (cI, 150, .inl yc)), (oyb, .inl (cI, 150, .inl yb)), (oW, .inr (2, [.ref orc, .int rn])), (orc, .inl (cI, 415, .inl rc)), (oS, .inr (4, [.ref orows])), (orows, .inl (cR, 4, .inr (.inr (.inr (.inr (qq_rows oR0 oR1 oR2 oR3)))))), (oR0, .inr (2, [.ref orc0, .int rn0])), (orc0, .inl (cI, 415, .inl rc0)), (oR1, .inr (2, [.ref orc1, .int rn1])), (orc1, .inl (cI, 415, .inl rc1)), (oR2, .inr (2, [.ref orc2, .int rn2])), (orc2, .inl (cI, 415, .inl rc2)), (oR3, .inr (2, [.ref orc3, .int rn3])), (orc3, .inl (cI, 415, .inl rc3))]) ⟨hx, hb, hml, hown, hts⟩ (ct_H_notePosition l dC dI cI cL cR oH obo oma oqt oyc oyb oP osq okg md_7 bo ma qt_8 yc yb sd_10 rt_11 ps_12 sq_13 kg_14 r9 hy16) mm_183 mm_184 mm_185 mm_182 mm_163 hd_H_notePosition (by decide) qq_00 hP hD hK hS hA hT hN (q0 := 4) (ci := 3) rfl rfl [4, 5, 6, 7, 8, 9, 1, 2, 3] [0, 10, 11, 12, 13, 14, 15, 16, 17, 18, 19, 20, 21] [0, 19, 20, 21, 13, 14, 15, 16, 17, 18, 1, 2, 3, 4, 5, 6, 7, 8, 9, 10, 11, 12] rfl rfl rfl (by decide) rfl hl.1 rfl (Nat.le_of_ble_eq_true rfl) dd_B_startPlay_82 (fun H locs hP hD hS => ?_)
  refine W.eq (g2 := F0 m 85 ls []) rfl ?_
  refine lv_aload_n hx hb dd_B_startPlay_85 rfl (lv_at hl 0 rfl) ?_
  refine lv_iconst (v := 1) hx hb dd_B_startPlay_86 (by decide) ?_
  refine va_put (D := (dC, dI)) (ci := 0) (v := .int 1) (ty := .boolean) (C := RR_B) (T := FF_B) (N := 5) hx hb hts uu_B tt_B tt_B_ok nn_B hown hK hP hD hS 0 rfl rfl 4 (by decide) (hts _ mm_6) (fun _ h9 => h9) rfl (by decide +kernel) rfl rfl (Nat.le_of_ble_eq_true rfl) dd_B_startPlay_87 (fun H locs hP hD hS => ?_)
  have hP : va_P (dC, dI) classes [(oB, .inr (0, [.ref oP, .ref oH, .ref oW, .ref oS, .int 1])), (oP, .inr (1, [.ref osq, .ref okg, .int sd_10, .int rt_11, .int ps_12])), (osq, .inl (cI, 64, .inl sq_13)), (okg, .inl (cI, 2, .inl kg_14)), (oH, .inr (3, [.ref obo, .ref oma, .ref oqt, .ref oyc, .ref oyb, .int md_7])), (obo, .inl (cL, 604, .inr (.inl bo_15))), (oma, .inl (cI, 151, .inl ma_16)), (oqt, .inl (cI, 151, .inl qt_8)), (oyc, .inl (cI, 150, .inl yc)), (oyb, .inl (cI, 150, .inl yb)), (oW, .inr (2, [.ref orc, .int rn])), (orc, .inl (cI, 415, .inl rc)), (oS, .inr (4, [.ref orows])), (orows, .inl (cR, 4, .inr (.inr (.inr (.inr (qq_rows oR0 oR1 oR2 oR3)))))), (oR0, .inr (2, [.ref orc0, .int rn0])), (orc0, .inl (cI, 415, .inl rc0)), (oR1, .inr (2, [.ref orc1, .int rn1])), (orc1, .inl (cI, 415, .inl rc1)), (oR2, .inr (2, [.ref orc2, .int rn2])), (orc2, .inl (cI, 415, .inl rc2)), (oR3, .inr (2, [.ref orc3, .int rn3])), (orc3, .inl (cI, 415, .inl rc3))] H := hP
  have hD : va_D A [(oB, .inr (0, [.ref oP, .ref oH, .ref oW, .ref oS, .int 1])), (oP, .inr (1, [.ref osq, .ref okg, .int sd_10, .int rt_11, .int ps_12])), (osq, .inl (cI, 64, .inl sq_13)), (okg, .inl (cI, 2, .inl kg_14)), (oH, .inr (3, [.ref obo, .ref oma, .ref oqt, .ref oyc, .ref oyb, .int md_7])), (obo, .inl (cL, 604, .inr (.inl bo_15))), (oma, .inl (cI, 151, .inl ma_16)), (oqt, .inl (cI, 151, .inl qt_8)), (oyc, .inl (cI, 150, .inl yc)), (oyb, .inl (cI, 150, .inl yb)), (oW, .inr (2, [.ref orc, .int rn])), (orc, .inl (cI, 415, .inl rc)), (oS, .inr (4, [.ref orows])), (orows, .inl (cR, 4, .inr (.inr (.inr (.inr (qq_rows oR0 oR1 oR2 oR3)))))), (oR0, .inr (2, [.ref orc0, .int rn0])), (orc0, .inl (cI, 415, .inl rc0)), (oR1, .inr (2, [.ref orc1, .int rn1])), (orc1, .inl (cI, 415, .inl rc1)), (oR2, .inr (2, [.ref orc2, .int rn2])), (orc2, .inl (cI, 415, .inl rc2)), (oR3, .inr (2, [.ref orc3, .int rn3])), (orc3, .inl (cI, 415, .inl rc3))] := hD
  cases hf
  exact qq_vret hx hb hr hlocks hQ hP hD hK hS dd_B_startPlay_90
theorem dd_G_areRightsFair_0 : decode bb_G_areRightsFair 0 = .ok (.iload_n 1, 1) := by decide +kernel
theorem dd_G_areRightsFair_1 : decode bb_G_areRightsFair 1 = .ok (.iconst 3, 1) := by decide +kernel
theorem dd_G_areRightsFair_2 : decode bb_G_areRightsFair 2 = .ok (.iand, 1) := by decide +kernel
theorem dd_G_areRightsFair_3 : decode bb_G_areRightsFair 3 = .ok (.ifCond .eq 11, 3) := by decide +kernel
theorem dd_G_areRightsFair_6 : decode bb_G_areRightsFair 6 = .ok (.aload_n 0, 1) := by decide +kernel
theorem dd_G_areRightsFair_7 : decode bb_G_areRightsFair 7 = .ok (.iconst 4, 1) := by decide +kernel
theorem dd_G_areRightsFair_8 : decode bb_G_areRightsFair 8 = .ok (.iaload, 1) := by decide +kernel
theorem dd_G_areRightsFair_9 : decode bb_G_areRightsFair 9 = .ok (.bipush 6, 2) := by decide +kernel
theorem dd_G_areRightsFair_11 : decode bb_G_areRightsFair 11 = .ok (.if_icmp .ne 81, 3) := by decide +kernel
theorem dd_G_areRightsFair_14 : decode bb_G_areRightsFair 14 = .ok (.iload_n 1, 1) := by decide +kernel
theorem dd_G_areRightsFair_15 : decode bb_G_areRightsFair 15 = .ok (.iconst 1, 1) := by decide +kernel
theorem dd_G_areRightsFair_16 : decode bb_G_areRightsFair 16 = .ok (.iand, 1) := by decide +kernel
theorem dd_G_areRightsFair_17 : decode bb_G_areRightsFair 17 = .ok (.ifCond .eq 11, 3) := by decide +kernel
theorem dd_G_areRightsFair_20 : decode bb_G_areRightsFair 20 = .ok (.aload_n 0, 1) := by decide +kernel
theorem dd_G_areRightsFair_21 : decode bb_G_areRightsFair 21 = .ok (.bipush 7, 2) := by decide +kernel
theorem dd_G_areRightsFair_23 : decode bb_G_areRightsFair 23 = .ok (.iaload, 1) := by decide +kernel
theorem dd_G_areRightsFair_24 : decode bb_G_areRightsFair 24 = .ok (.iconst 4, 1) := by decide +kernel
theorem dd_G_areRightsFair_25 : decode bb_G_areRightsFair 25 = .ok (.if_icmp .ne 67, 3) := by decide +kernel
theorem dd_G_areRightsFair_28 : decode bb_G_areRightsFair 28 = .ok (.iload_n 1, 1) := by decide +kernel
theorem dd_G_areRightsFair_29 : decode bb_G_areRightsFair 29 = .ok (.iconst 2, 1) := by decide +kernel
theorem dd_G_areRightsFair_30 : decode bb_G_areRightsFair 30 = .ok (.iand, 1) := by decide +kernel
theorem dd_G_areRightsFair_31 : decode bb_G_areRightsFair 31 = .ok (.ifCond .eq 10, 3) := by decide +kernel
theorem dd_G_areRightsFair_34 : decode bb_G_areRightsFair 34 = .ok (.aload_n 0, 1) := by decide +kernel
theorem dd_G_areRightsFair_35 : decode bb_G_areRightsFair 35 = .ok (.iconst 0, 1) := by decide +kernel
theorem dd_G_areRightsFair_36 : decode bb_G_areRightsFair 36 = .ok (.iaload, 1) := by decide +kernel
theorem dd_G_areRightsFair_37 : decode bb_G_areRightsFair 37 = .ok (.iconst 4, 1) := by decide +kernel
theorem dd_G_areRightsFair_38 : decode bb_G_areRightsFair 38 = .ok (.if_icmp .ne 54, 3) := by decide +kernel
theorem dd_G_areRightsFair_41 : decode bb_G_areRightsFair 41 = .ok (.iload_n 1, 1) := by decide +kernel
theorem dd_G_areRightsFair_42 : decode bb_G_areRightsFair 42 = .ok (.bipush 12, 2) := by decide +kernel
theorem dd_G_areRightsFair_44 : decode bb_G_areRightsFair 44 = .ok (.iand, 1) := by decide +kernel
theorem dd_G_areRightsFair_45 : decode bb_G_areRightsFair 45 = .ok (.ifCond .eq 12, 3) := by decide +kernel
theorem dd_G_areRightsFair_48 : decode bb_G_areRightsFair 48 = .ok (.aload_n 0, 1) := by decide +kernel
theorem dd_G_areRightsFair_49 : decode bb_G_areRightsFair 49 = .ok (.bipush 60, 2) := by decide +kernel
theorem dd_G_areRightsFair_51 : decode bb_G_areRightsFair 51 = .ok (.iaload, 1) := by decide +kernel
theorem dd_G_areRightsFair_52 : decode bb_G_areRightsFair 52 = .ok (.bipush 12, 2) := by decide +kernel
theorem dd_G_areRightsFair_54 : decode bb_G_areRightsFair 54 = .ok (.if_icmp .ne 38, 3) := by decide +kernel
theorem dd_G_areRightsFair_57 : decode bb_G_areRightsFair 57 = .ok (.iload_n 1, 1) := by decide +kernel
theorem dd_G_areRightsFair_58 : decode bb_G_areRightsFair 58 = .ok (.iconst 4, 1) := by decide +kernel
theorem dd_G_areRightsFair_59 : decode bb_G_areRightsFair 59 = .ok (.iand, 1) := by decide +kernel
theorem dd_G_areRightsFair_60 : decode bb_G_areRightsFair 60 = .ok (.ifCond .eq 12, 3) := by decide +kernel
theorem dd_G_areRightsFair_63 : decode bb_G_areRightsFair 63 = .ok (.aload_n 0, 1) := by decide +kernel
theorem dd_G_areRightsFair_64 : decode bb_G_areRightsFair 64 = .ok (.bipush 63, 2) := by decide +kernel
theorem dd_G_areRightsFair_66 : decode bb_G_areRightsFair 66 = .ok (.iaload, 1) := by decide +kernel
theorem dd_G_areRightsFair_67 : decode bb_G_areRightsFair 67 = .ok (.bipush 10, 2) := by decide +kernel
theorem dd_G_areRightsFair_69 : decode bb_G_areRightsFair 69 = .ok (.if_icmp .ne 23, 3) := by decide +kernel
theorem dd_G_areRightsFair_72 : decode bb_G_areRightsFair 72 = .ok (.iload_n 1, 1) := by decide +kernel
theorem dd_G_areRightsFair_73 : decode bb_G_areRightsFair 73 = .ok (.bipush 8, 2) := by decide +kernel
theorem dd_G_areRightsFair_75 : decode bb_G_areRightsFair 75 = .ok (.iand, 1) := by decide +kernel
theorem dd_G_areRightsFair_76 : decode bb_G_areRightsFair 76 = .ok (.ifCond .eq 12, 3) := by decide +kernel
theorem dd_G_areRightsFair_79 : decode bb_G_areRightsFair 79 = .ok (.aload_n 0, 1) := by decide +kernel
theorem dd_G_areRightsFair_80 : decode bb_G_areRightsFair 80 = .ok (.bipush 56, 2) := by decide +kernel
theorem dd_G_areRightsFair_82 : decode bb_G_areRightsFair 82 = .ok (.iaload, 1) := by decide +kernel
theorem dd_G_areRightsFair_83 : decode bb_G_areRightsFair 83 = .ok (.bipush 10, 2) := by decide +kernel
theorem dd_G_areRightsFair_85 : decode bb_G_areRightsFair 85 = .ok (.if_icmp .ne 7, 3) := by decide +kernel
theorem dd_G_areRightsFair_88 : decode bb_G_areRightsFair 88 = .ok (.iconst 1, 1) := by decide +kernel
theorem dd_G_areRightsFair_89 : decode bb_G_areRightsFair 89 = .ok (.goto 4, 3) := by decide +kernel
theorem dd_G_areRightsFair_92 : decode bb_G_areRightsFair 92 = .ok (.iconst 0, 1) := by decide +kernel
theorem dd_G_areRightsFair_93 : decode bb_G_areRightsFair 93 = .ok (.ireturn, 1) := by decide +kernel
abbrev ty_G_areRightsFair : Type := Int32
noncomputable def bk_G_areRightsFair_93 (ar : Nat → Int32) (a1 : Int32) (s0 : Int32) : Option ty_G_areRightsFair := qq_ck (qq_b s0) <| some s0
noncomputable def bk_G_areRightsFair_92 (ar : Nat → Int32) (a1 : Int32) : Option ty_G_areRightsFair := bk_G_areRightsFair_93 ar a1 0
noncomputable def bk_G_areRightsFair_88 (ar : Nat → Int32) (a1 : Int32) : Option ty_G_areRightsFair := bk_G_areRightsFair_93 ar a1 1
noncomputable def bk_G_areRightsFair_72 (ar : Nat → Int32) (a1 : Int32) : Option ty_G_areRightsFair := if (a1 &&& 8) = 0 then (bk_G_areRightsFair_88 ar a1) else (qq_ck (qq_in 56 64) <| if (ar (56 : Int32).toNatClampNeg) = 10 then (bk_G_areRightsFair_88 ar a1) else (bk_G_areRightsFair_92 ar a1))
noncomputable def bk_G_areRightsFair_57 (ar : Nat → Int32) (a1 : Int32) : Option ty_G_areRightsFair := if (a1 &&& 4) = 0 then (bk_G_areRightsFair_72 ar a1) else (qq_ck (qq_in 63 64) <| if (ar (63 : Int32).toNatClampNeg) = 10 then (bk_G_areRightsFair_72 ar a1) else (bk_G_areRightsFair_92 ar a1))
noncomputable def bk_G_areRightsFair_41 (ar : Nat → Int32) (a1 : Int32) : Option ty_G_areRightsFair := if (a1 &&& 12) = 0 then (bk_G_areRightsFair_57 ar a1) else (qq_ck (qq_in 60 64) <| if (ar (60 : Int32).toNatClampNeg) = 12 then (bk_G_areRightsFair_57 ar a1) else (bk_G_areRightsFair_92 ar a1))
noncomputable def bk_G_areRightsFair_28 (ar : Nat → Int32) (a1 : Int32) : Option ty_G_areRightsFair := if (a1 &&& 2) = 0 then (bk_G_areRightsFair_41 ar a1) else (qq_ck (qq_in 0 64) <| if (ar (0 : Int32).toNatClampNeg) = 4 then (bk_G_areRightsFair_41 ar a1) else (bk_G_areRightsFair_92 ar a1))
noncomputable def bk_G_areRightsFair_14 (ar : Nat → Int32) (a1 : Int32) : Option ty_G_areRightsFair := if (a1 &&& 1) = 0 then (bk_G_areRightsFair_28 ar a1) else (qq_ck (qq_in 7 64) <| if (ar (7 : Int32).toNatClampNeg) = 4 then (bk_G_areRightsFair_28 ar a1) else (bk_G_areRightsFair_92 ar a1))
noncomputable def fn_G_areRightsFair (ar : Nat → Int32) (a1 : Int32) : Option ty_G_areRightsFair := if (a1 &&& 3) = 0 then (bk_G_areRightsFair_14 ar a1) else (qq_ck (qq_in 4 64) <| if (ar (4 : Int32).toNatClampNeg) = 6 then (bk_G_areRightsFair_14 ar a1) else (bk_G_areRightsFair_92 ar a1))
abbrev rm_G_areRightsFair : Room := { frames := 0, cells := 0, slots := 0, locals := 0 }
set_option maxHeartbeats 4000000 in
set_option maxRecDepth 100000 in
theorem ct_G_areRightsFair (l : Launch) (dC : Nat → ClassId) (dI : Nat → Nat → Nat) (cI cL cR : ClassId) (oar : Nat) (ar : Nat → Int32) (a1 : Int32) {rr : Int32} (hf : fn_G_areRightsFair ar a1 = some rr) : qq_det l yy_G_areRightsFair (ww_of yy_G_areRightsFair bb_G_areRightsFair 2 (some .boolean)) rm_G_areRightsFair (dC, dI) (qq_ty cI cL cR) [.ref oar, .int a1] [(oar, .inl (cI, 64, .inl ar))] (some (.int rr)) [(oar, .inl (cI, 64, .inl ar))] := by
  refine qq_of (own := RR_G) (by decide) rfl (Nat.le_of_ble_eq_true rfl) ?_
  intro p e s m below meth c A Q ls hx hb hml hr hlocks hown hts hK hA hT hN hP hD hS hl hQ
  have hl : lv_has ls 2 [(0, .ref oar), (1, .int a1)] := hl
  have hJ93 : ∀ (s0 : Int32) (H : Heap) (locs : List Loc) (ls : Array Slot), lv_has ls 2 [] → va_P (dC, dI) classes [(oar, .inl (cI, 64, .inl ar))] H → va_D A [(oar, .inl (cI, 64, .inl ar))] → va_S A s.heap H locs → bk_G_areRightsFair_93 ar a1 s0 = some rr → W p l e rm_G_areRightsFair s m ([.ref oar, .int a1] : List Value).toArray below meth c H locs 0 0 Q (F0 m 93 ls [.int s0]) := by
    intro s0 H locs ls hl hP hD hS hf
    rw [bk_G_areRightsFair_93] at hf
    obtain ⟨hzb, hf⟩ := qq_ckE hf
    cases hf
    exact qq_zret hx hb hr (qq_bE hzb) hlocks hQ hP hD hK hS dd_G_areRightsFair_93
  have hJ92 : ∀  (H : Heap) (locs : List Loc) (ls : Array Slot), lv_has ls 2 [] → va_P (dC, dI) classes [(oar, .inl (cI, 64, .inl ar))] H → va_D A [(oar, .inl (cI, 64, .inl ar))] → va_S A s.heap H locs → bk_G_areRightsFair_92 ar a1 = some rr → W p l e rm_G_areRightsFair s m ([.ref oar, .int a1] : List Value).toArray below meth c H locs 0 0 Q (F0 m 92 ls []) := by
    intro  H locs ls hl hP hD hS hf
    rw [bk_G_areRightsFair_92] at hf
    refine lv_iconst (v := 0) hx hb dd_G_areRightsFair_92 (by decide) ?_
    exact hJ93 0 _ _ _ (lv_sub hl [] rfl) hP hD hS hf
  have hJ88 : ∀  (H : Heap) (locs : List Loc) (ls : Array Slot), lv_has ls 2 [] → va_P (dC, dI) classes [(oar, .inl (cI, 64, .inl ar))] H → va_D A [(oar, .inl (cI, 64, .inl ar))] → va_S A s.heap H locs → bk_G_areRightsFair_88 ar a1 = some rr → W p l e rm_G_areRightsFair s m ([.ref oar, .int a1] : List Value).toArray below meth c H locs 0 0 Q (F0 m 88 ls []) := by
    intro  H locs ls hl hP hD hS hf
    rw [bk_G_areRightsFair_88] at hf
    refine lv_iconst (v := 1) hx hb dd_G_areRightsFair_88 (by decide) ?_
    refine lv_goto (tgt := 93) hx hb dd_G_areRightsFair_89 (by decide) ?_
    exact hJ93 1 _ _ _ (lv_sub hl [] rfl) hP hD hS hf
  have hJ72 : ∀  (H : Heap) (locs : List Loc) (ls : Array Slot), lv_has ls 2 [(0, .ref oar), (1, .int a1)] → va_P (dC, dI) classes [(oar, .inl (cI, 64, .inl ar))] H → va_D A [(oar, .inl (cI, 64, .inl ar))] → va_S A s.heap H locs → bk_G_areRightsFair_72 ar a1 = some rr → W p l e rm_G_areRightsFair s m ([.ref oar, .int a1] : List Value).toArray below meth c H locs 0 0 Q (F0 m 72 ls []) := by
    intro  H locs ls hl hP hD hS hf
    rw [bk_G_areRightsFair_72] at hf
    refine lv_iload_n hx hb dd_G_areRightsFair_72 rfl (lv_at hl 1 rfl) ?_
    refine lv_bipush (v := 8) hx hb dd_G_areRightsFair_73 (by decide) ?_
    refine lv_iand hx hb dd_G_areRightsFair_75 ?_
    refine lv_if_eq (tgt := 88) hx hb dd_G_areRightsFair_76 (by decide) (fun hc => ?_) (fun hc => ?_)
    · replace hf := qq_t hc hf
      exact hJ88  _ _ _ (lv_sub hl [] rfl) hP hD hS hf
    · replace hf := qq_f hc hf
      refine lv_aload_n hx hb dd_G_areRightsFair_79 rfl (lv_at hl 0 rfl) ?_
      refine lv_bipush (v := 56) hx hb dd_G_areRightsFair_80 (by decide) ?_
      obtain ⟨hi4001, hf⟩ := qq_ckE hf
      refine va_iald (D := (dC, dI)) (f := ar) (n := 64) (cA := cI) hx hb hK hP 0 0 rfl rfl (qq_inE hi4001) dd_G_areRightsFair_82 ?_
      refine lv_bipush (v := 10) hx hb dd_G_areRightsFair_83 (by decide) ?_
      refine lv_icmp_ne (tgt := 92) hx hb dd_G_areRightsFair_85 (by decide) (fun hc => ?_) (fun hc => ?_)
      · replace hf := qq_f hc hf
        exact hJ92  _ _ _ (lv_sub hl [] rfl) hP hD hS hf
      · replace hf := qq_t hc hf
        exact hJ88  _ _ _ (lv_sub hl [] rfl) hP hD hS hf
  have hJ57 : ∀  (H : Heap) (locs : List Loc) (ls : Array Slot), lv_has ls 2 [(0, .ref oar), (1, .int a1)] → va_P (dC, dI) classes [(oar, .inl (cI, 64, .inl ar))] H → va_D A [(oar, .inl (cI, 64, .inl ar))] → va_S A s.heap H locs → bk_G_areRightsFair_57 ar a1 = some rr → W p l e rm_G_areRightsFair s m ([.ref oar, .int a1] : List Value).toArray below meth c H locs 0 0 Q (F0 m 57 ls []) := by
    intro  H locs ls hl hP hD hS hf
    rw [bk_G_areRightsFair_57] at hf
    refine lv_iload_n hx hb dd_G_areRightsFair_57 rfl (lv_at hl 1 rfl) ?_
    refine lv_iconst (v := 4) hx hb dd_G_areRightsFair_58 (by decide) ?_
    refine lv_iand hx hb dd_G_areRightsFair_59 ?_
    refine lv_if_eq (tgt := 72) hx hb dd_G_areRightsFair_60 (by decide) (fun hc => ?_) (fun hc => ?_)
    · replace hf := qq_t hc hf
      exact hJ72  _ _ _ (lv_sub hl [0, 1] rfl) hP hD hS hf
    · replace hf := qq_f hc hf
      refine lv_aload_n hx hb dd_G_areRightsFair_63 rfl (lv_at hl 0 rfl) ?_
      refine lv_bipush (v := 63) hx hb dd_G_areRightsFair_64 (by decide) ?_
      obtain ⟨hi5001, hf⟩ := qq_ckE hf
      refine va_iald (D := (dC, dI)) (f := ar) (n := 64) (cA := cI) hx hb hK hP 0 0 rfl rfl (qq_inE hi5001) dd_G_areRightsFair_66 ?_
      refine lv_bipush (v := 10) hx hb dd_G_areRightsFair_67 (by decide) ?_
      refine lv_icmp_ne (tgt := 92) hx hb dd_G_areRightsFair_69 (by decide) (fun hc => ?_) (fun hc => ?_)
      · replace hf := qq_f hc hf
        exact hJ92  _ _ _ (lv_sub hl [] rfl) hP hD hS hf
      · replace hf := qq_t hc hf
        exact hJ72  _ _ _ (lv_sub hl [0, 1] rfl) hP hD hS hf
  have hJ41 : ∀  (H : Heap) (locs : List Loc) (ls : Array Slot), lv_has ls 2 [(0, .ref oar), (1, .int a1)] → va_P (dC, dI) classes [(oar, .inl (cI, 64, .inl ar))] H → va_D A [(oar, .inl (cI, 64, .inl ar))] → va_S A s.heap H locs → bk_G_areRightsFair_41 ar a1 = some rr → W p l e rm_G_areRightsFair s m ([.ref oar, .int a1] : List Value).toArray below meth c H locs 0 0 Q (F0 m 41 ls []) := by
    intro  H locs ls hl hP hD hS hf
    rw [bk_G_areRightsFair_41] at hf
    refine lv_iload_n hx hb dd_G_areRightsFair_41 rfl (lv_at hl 1 rfl) ?_
    refine lv_bipush (v := 12) hx hb dd_G_areRightsFair_42 (by decide) ?_
    refine lv_iand hx hb dd_G_areRightsFair_44 ?_
    refine lv_if_eq (tgt := 57) hx hb dd_G_areRightsFair_45 (by decide) (fun hc => ?_) (fun hc => ?_)
    · replace hf := qq_t hc hf
      exact hJ57  _ _ _ (lv_sub hl [0, 1] rfl) hP hD hS hf
    · replace hf := qq_f hc hf
      refine lv_aload_n hx hb dd_G_areRightsFair_48 rfl (lv_at hl 0 rfl) ?_
      refine lv_bipush (v := 60) hx hb dd_G_areRightsFair_49 (by decide) ?_
      obtain ⟨hi6001, hf⟩ := qq_ckE hf
      refine va_iald (D := (dC, dI)) (f := ar) (n := 64) (cA := cI) hx hb hK hP 0 0 rfl rfl (qq_inE hi6001) dd_G_areRightsFair_51 ?_
      refine lv_bipush (v := 12) hx hb dd_G_areRightsFair_52 (by decide) ?_
      refine lv_icmp_ne (tgt := 92) hx hb dd_G_areRightsFair_54 (by decide) (fun hc => ?_) (fun hc => ?_)
      · replace hf := qq_f hc hf
        exact hJ92  _ _ _ (lv_sub hl [] rfl) hP hD hS hf
      · replace hf := qq_t hc hf
        exact hJ57  _ _ _ (lv_sub hl [0, 1] rfl) hP hD hS hf
  have hJ28 : ∀  (H : Heap) (locs : List Loc) (ls : Array Slot), lv_has ls 2 [(0, .ref oar), (1, .int a1)] → va_P (dC, dI) classes [(oar, .inl (cI, 64, .inl ar))] H → va_D A [(oar, .inl (cI, 64, .inl ar))] → va_S A s.heap H locs → bk_G_areRightsFair_28 ar a1 = some rr → W p l e rm_G_areRightsFair s m ([.ref oar, .int a1] : List Value).toArray below meth c H locs 0 0 Q (F0 m 28 ls []) := by
    intro  H locs ls hl hP hD hS hf
    rw [bk_G_areRightsFair_28] at hf
    refine lv_iload_n hx hb dd_G_areRightsFair_28 rfl (lv_at hl 1 rfl) ?_
    refine lv_iconst (v := 2) hx hb dd_G_areRightsFair_29 (by decide) ?_
    refine lv_iand hx hb dd_G_areRightsFair_30 ?_
    refine lv_if_eq (tgt := 41) hx hb dd_G_areRightsFair_31 (by decide) (fun hc => ?_) (fun hc => ?_)
    · replace hf := qq_t hc hf
      exact hJ41  _ _ _ (lv_sub hl [0, 1] rfl) hP hD hS hf
    · replace hf := qq_f hc hf
      refine lv_aload_n hx hb dd_G_areRightsFair_34 rfl (lv_at hl 0 rfl) ?_
      refine lv_iconst (v := 0) hx hb dd_G_areRightsFair_35 (by decide) ?_
      obtain ⟨hi7001, hf⟩ := qq_ckE hf
      refine va_iald (D := (dC, dI)) (f := ar) (n := 64) (cA := cI) hx hb hK hP 0 0 rfl rfl (qq_inE hi7001) dd_G_areRightsFair_36 ?_
      refine lv_iconst (v := 4) hx hb dd_G_areRightsFair_37 (by decide) ?_
      refine lv_icmp_ne (tgt := 92) hx hb dd_G_areRightsFair_38 (by decide) (fun hc => ?_) (fun hc => ?_)
      · replace hf := qq_f hc hf
        exact hJ92  _ _ _ (lv_sub hl [] rfl) hP hD hS hf
      · replace hf := qq_t hc hf
        exact hJ41  _ _ _ (lv_sub hl [0, 1] rfl) hP hD hS hf
  have hJ14 : ∀  (H : Heap) (locs : List Loc) (ls : Array Slot), lv_has ls 2 [(0, .ref oar), (1, .int a1)] → va_P (dC, dI) classes [(oar, .inl (cI, 64, .inl ar))] H → va_D A [(oar, .inl (cI, 64, .inl ar))] → va_S A s.heap H locs → bk_G_areRightsFair_14 ar a1 = some rr → W p l e rm_G_areRightsFair s m ([.ref oar, .int a1] : List Value).toArray below meth c H locs 0 0 Q (F0 m 14 ls []) := by
    intro  H locs ls hl hP hD hS hf
    rw [bk_G_areRightsFair_14] at hf
    refine lv_iload_n hx hb dd_G_areRightsFair_14 rfl (lv_at hl 1 rfl) ?_
    refine lv_iconst (v := 1) hx hb dd_G_areRightsFair_15 (by decide) ?_
    refine lv_iand hx hb dd_G_areRightsFair_16 ?_
    refine lv_if_eq (tgt := 28) hx hb dd_G_areRightsFair_17 (by decide) (fun hc => ?_) (fun hc => ?_)
    · replace hf := qq_t hc hf
      exact hJ28  _ _ _ (lv_sub hl [0, 1] rfl) hP hD hS hf
    · replace hf := qq_f hc hf
      refine lv_aload_n hx hb dd_G_areRightsFair_20 rfl (lv_at hl 0 rfl) ?_
      refine lv_bipush (v := 7) hx hb dd_G_areRightsFair_21 (by decide) ?_
      obtain ⟨hi8001, hf⟩ := qq_ckE hf
      refine va_iald (D := (dC, dI)) (f := ar) (n := 64) (cA := cI) hx hb hK hP 0 0 rfl rfl (qq_inE hi8001) dd_G_areRightsFair_23 ?_
      refine lv_iconst (v := 4) hx hb dd_G_areRightsFair_24 (by decide) ?_
      refine lv_icmp_ne (tgt := 92) hx hb dd_G_areRightsFair_25 (by decide) (fun hc => ?_) (fun hc => ?_)
      · replace hf := qq_f hc hf
        exact hJ92  _ _ _ (lv_sub hl [] rfl) hP hD hS hf
      · replace hf := qq_t hc hf
        exact hJ28  _ _ _ (lv_sub hl [0, 1] rfl) hP hD hS hf
  rw [fn_G_areRightsFair] at hf
  refine lv_iload_n hx hb dd_G_areRightsFair_0 rfl (lv_at hl 1 rfl) ?_
  refine lv_iconst (v := 3) hx hb dd_G_areRightsFair_1 (by decide) ?_
  refine lv_iand hx hb dd_G_areRightsFair_2 ?_
  refine lv_if_eq (tgt := 14) hx hb dd_G_areRightsFair_3 (by decide) (fun hc => ?_) (fun hc => ?_)
  · replace hf := qq_t hc hf
    exact hJ14  _ _ _ (lv_sub hl [0, 1] rfl) hP hD hS hf
  · replace hf := qq_f hc hf
    refine lv_aload_n hx hb dd_G_areRightsFair_6 rfl (lv_at hl 0 rfl) ?_
    refine lv_iconst (v := 4) hx hb dd_G_areRightsFair_7 (by decide) ?_
    obtain ⟨hi1, hf⟩ := qq_ckE hf
    refine va_iald (D := (dC, dI)) (f := ar) (n := 64) (cA := cI) hx hb hK hP 0 0 rfl rfl (qq_inE hi1) dd_G_areRightsFair_8 ?_
    refine lv_bipush (v := 6) hx hb dd_G_areRightsFair_9 (by decide) ?_
    refine lv_icmp_ne (tgt := 92) hx hb dd_G_areRightsFair_11 (by decide) (fun hc => ?_) (fun hc => ?_)
    · replace hf := qq_f hc hf
      exact hJ92  _ _ _ (lv_sub hl [] rfl) hP hD hS hf
    · replace hf := qq_t hc hf
      exact hJ14  _ _ _ (lv_sub hl [0, 1] rfl) hP hD hS hf
