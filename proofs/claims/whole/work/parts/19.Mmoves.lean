theorem dd_M_moves_0 : decode bb_M_moves 0 = .ok (.aload_n 0, 1) := by decide +kernel
theorem dd_M_moves_1 : decode bb_M_moves 1 = .ok (.aload_n 0, 1) := by decide +kernel
theorem dd_M_moves_2 : decode bb_M_moves 2 = .ok (.getfield 56, 3) := by decide +kernel
theorem dd_M_moves_5 : decode bb_M_moves 5 = .ok (.ifCond .eq 7, 3) := by decide +kernel
theorem dd_M_moves_8 : decode bb_M_moves 8 = .ok (.iconst 0, 1) := by decide +kernel
theorem dd_M_moves_9 : decode bb_M_moves 9 = .ok (.goto 4, 3) := by decide +kernel
theorem dd_M_moves_12 : decode bb_M_moves 12 = .ok (.iconst 1, 1) := by decide +kernel
theorem dd_M_moves_13 : decode bb_M_moves 13 = .ok (.invokevirtual 155, 3) := by decide +kernel
theorem dd_M_moves_16 : decode bb_M_moves 16 = .ok (.ifCond .eq 7, 3) := by decide +kernel
theorem dd_M_moves_19 : decode bb_M_moves 19 = .ok (.iconst 0, 1) := by decide +kernel
theorem dd_M_moves_20 : decode bb_M_moves 20 = .ok (.goto 8, 3) := by decide +kernel
theorem dd_M_moves_23 : decode bb_M_moves 23 = .ok (.aload_n 0, 1) := by decide +kernel
theorem dd_M_moves_24 : decode bb_M_moves 24 = .ok (.iconst 0, 1) := by decide +kernel
theorem dd_M_moves_25 : decode bb_M_moves 25 = .ok (.invokevirtual 138, 3) := by decide +kernel
theorem dd_M_moves_28 : decode bb_M_moves 28 = .ok (.ireturn, 1) := by decide +kernel
abbrev ty_M_moves : Type := Int32 × Int32 × Int32 × Int32 × Int32 × Int32 × (Nat → Int32) × (Nat → Int32) × (Nat → Int32) × (Nat → Int32) × (Nat → Int32) × (Nat → Int32) × (Nat → Int32)
noncomputable def bk_M_moves_28 (mpl : Int32) (mth : Int32) (msd : Int32) (mrt : Int32) (mps : Int32) (mqt : Int32) (bd : Nat → Int32) (kp : Nat → Int32) (kS : Nat → Int32) (kR : Nat → Int32) (kP : Nat → Int32) (kQ : Nat → Int32) (li : Nat → Int32) (s0 : Int32) : Option ty_M_moves := some (s0, mth, msd, mrt, mps, mqt, bd, kp, kS, kR, kP, kQ, li)
noncomputable def bk_M_moves_13 (mpl : Int32) (mth : Int32) (msd : Int32) (mrt : Int32) (mps : Int32) (mqt : Int32) (bd : Nat → Int32) (kp : Nat → Int32) (kS : Nat → Int32) (kR : Nat → Int32) (kP : Nat → Int32) (kQ : Nat → Int32) (li : Nat → Int32) (s1 : Int32) : Option ty_M_moves := (fn_M_refused mth s1).bind fun (r2001, mth_2002) => if r2001 = 0 then ((fn_M_collect msd mrt mps mqt bd kp kS kR kP kQ li 0).bind fun (r2003, msd_2004, mrt_2005, mps_2006, mqt_2007, bd_2008, kp_2009, kS_2010, kR_2011, kP_2012, kQ_2013, li_2014) => bk_M_moves_28 mpl mth_2002 msd_2004 mrt_2005 mps_2006 mqt_2007 bd_2008 kp_2009 kS_2010 kR_2011 kP_2012 kQ_2013 li_2014 r2003) else (bk_M_moves_28 mpl mth_2002 msd mrt mps mqt bd kp kS kR kP kQ li 0)
noncomputable def fn_M_moves (mth : Int32) (mpl : Int32) (msd : Int32) (mrt : Int32) (mps : Int32) (mqt : Int32) (bd : Nat → Int32) (kp : Nat → Int32) (kS : Nat → Int32) (kR : Nat → Int32) (kP : Nat → Int32) (kQ : Nat → Int32) (li : Nat → Int32) : Option ty_M_moves := if mpl = 0 then (bk_M_moves_13 mpl mth msd mrt mps mqt bd kp kS kR kP kQ li 1) else (bk_M_moves_13 mpl mth msd mrt mps mqt bd kp kS kR kP kQ li 0)
abbrev rm_M_moves : Room := { frames := 9, cells := 0, slots := 0, locals := 214 }
set_option maxHeartbeats 4000000 in
set_option maxRecDepth 100000 in
theorem ct_M_moves (l : Launch) (dC : Nat → ClassId) (dI : Nat → Nat → Nat) (cI cL cR : ClassId) (oM obd opa opS opR opG opP opQ okp okS okR okP okQ oli : Nat) (mth : Int32) (mpl : Int32) (msd : Int32) (mrt : Int32) (mps : Int32) (mqt : Int32) (mmd : Int32) (bd : Nat → Int32) (pa : Nat → Int32) (pS : Nat → Int32) (pR : Nat → Int32) (pG : Nat → Int32) (pP : Nat → Int32) (pQ : Nat → Int32) (kp : Nat → Int32) (kS : Nat → Int32) (kR : Nat → Int32) (kP : Nat → Int32) (kQ : Nat → Int32) (li : Nat → Int32) {rr : Int32} {mth' : Int32} {msd' : Int32} {mrt' : Int32} {mps' : Int32} {mqt' : Int32} {bd' : Nat → Int32} {kp' : Nat → Int32} {kS' : Nat → Int32} {kR' : Nat → Int32} {kP' : Nat → Int32} {kQ' : Nat → Int32} {li' : Nat → Int32} (hf : fn_M_moves mth mpl msd mrt mps mqt bd kp kS kR kP kQ li = some (rr, mth', msd', mrt', mps', mqt', bd', kp', kS', kR', kP', kQ', li')) : qq_det l yy_M_moves (ww_of yy_M_moves bb_M_moves 1 (some .int)) rm_M_moves (dC, dI) (qq_ty cI cL cR) [.ref oM] [(oM, .inr (5, [.int mth, .int mpl, .ref obd, .int msd, .int mrt, .int mps, .int mqt, .int mmd, .ref opa, .ref opS, .ref opR, .ref opG, .ref opP, .ref opQ, .ref okp, .ref okS, .ref okR, .ref okP, .ref okQ, .ref oli])), (obd, .inl (cI, 64, .inl bd)), (opa, .inl (cI, 9664, .inl pa)), (opS, .inl (cI, 151, .inl pS)), (opR, .inl (cI, 151, .inl pR)), (opG, .inl (cI, 151, .inl pG)), (opP, .inl (cI, 151, .inl pP)), (opQ, .inl (cI, 151, .inl pQ)), (okp, .inl (cI, 256, .inl kp)), (okS, .inl (cI, 4, .inl kS)), (okR, .inl (cI, 4, .inl kR)), (okP, .inl (cI, 4, .inl kP)), (okQ, .inl (cI, 4, .inl kQ)), (oli, .inl (cI, 1320, .inl li))] (some (.int rr)) [(oM, .inr (5, [.int mth', .int mpl, .ref obd, .int msd', .int mrt', .int mps', .int mqt', .int mmd, .ref opa, .ref opS, .ref opR, .ref opG, .ref opP, .ref opQ, .ref okp, .ref okS, .ref okR, .ref okP, .ref okQ, .ref oli])), (obd, .inl (cI, 64, .inl bd')), (opa, .inl (cI, 9664, .inl pa)), (opS, .inl (cI, 151, .inl pS)), (opR, .inl (cI, 151, .inl pR)), (opG, .inl (cI, 151, .inl pG)), (opP, .inl (cI, 151, .inl pP)), (opQ, .inl (cI, 151, .inl pQ)), (okp, .inl (cI, 256, .inl kp')), (okS, .inl (cI, 4, .inl kS')), (okR, .inl (cI, 4, .inl kR')), (okP, .inl (cI, 4, .inl kP')), (okQ, .inl (cI, 4, .inl kQ')), (oli, .inl (cI, 1320, .inl li'))] := by
  refine qq_of (own := RR_M) (by decide) rfl (Nat.le_of_ble_eq_true rfl) ?_
  intro p e s m below meth c A Q ls hx hb hml hr hlocks hown hts hK hA hT hN hP hD hS hl hQ
  have hl : lv_has ls 1 [(0, .ref oM)] := hl
  have hJ28 : ∀ (mth : Int32) (msd : Int32) (mrt : Int32) (mps : Int32) (mqt : Int32) (bd : Nat → Int32) (kp : Nat → Int32) (kS : Nat → Int32) (kR : Nat → Int32) (kP : Nat → Int32) (kQ : Nat → Int32) (li : Nat → Int32) (s0 : Int32) (H : Heap) (locs : List Loc) (ls : Array Slot), lv_has ls 1 [] → va_P (dC, dI) classes [(oM, .inr (5, [.int mth, .int mpl, .ref obd, .int msd, .int mrt, .int mps, .int mqt, .int mmd, .ref opa, .ref opS, .ref opR, .ref opG, .ref opP, .ref opQ, .ref okp, .ref okS, .ref okR, .ref okP, .ref okQ, .ref oli])), (obd, .inl (cI, 64, .inl bd)), (opa, .inl (cI, 9664, .inl pa)), (opS, .inl (cI, 151, .inl pS)), (opR, .inl (cI, 151, .inl pR)), (opG, .inl (cI, 151, .inl pG)), (opP, .inl (cI, 151, .inl pP)), (opQ, .inl (cI, 151, .inl pQ)), (okp, .inl (cI, 256, .inl kp)), (okS, .inl (cI, 4, .inl kS)), (okR, .inl (cI, 4, .inl kR)), (okP, .inl (cI, 4, .inl kP)), (okQ, .inl (cI, 4, .inl kQ)), (oli, .inl (cI, 1320, .inl li))] H → va_D A [(oM, .inr (5, [.int mth, .int mpl, .ref obd, .int msd, .int mrt, .int mps, .int mqt, .int mmd, .ref opa, .ref opS, .ref opR, .ref opG, .ref opP, .ref opQ, .ref okp, .ref okS, .ref okR, .ref okP, .ref okQ, .ref oli])), (obd, .inl (cI, 64, .inl bd)), (opa, .inl (cI, 9664, .inl pa)), (opS, .inl (cI, 151, .inl pS)), (opR, .inl (cI, 151, .inl pR)), (opG, .inl (cI, 151, .inl pG)), (opP, .inl (cI, 151, .inl pP)), (opQ, .inl (cI, 151, .inl pQ)), (okp, .inl (cI, 256, .inl kp)), (okS, .inl (cI, 4, .inl kS)), (okR, .inl (cI, 4, .inl kR)), (okP, .inl (cI, 4, .inl kP)), (okQ, .inl (cI, 4, .inl kQ)), (oli, .inl (cI, 1320, .inl li))] → va_S A s.heap H locs → bk_M_moves_28 mpl mth msd mrt mps mqt bd kp kS kR kP kQ li s0 = some (rr, mth', msd', mrt', mps', mqt', bd', kp', kS', kR', kP', kQ', li') → W p l e rm_M_moves s m ([.ref oM] : List Value).toArray below meth c H locs 0 0 Q (F0 m 28 ls [.int s0]) := by
    intro mth msd mrt mps mqt bd kp kS kR kP kQ li s0 H locs ls hl hP hD hS hf
    rw [bk_M_moves_28] at hf
    cases hf
    exact qq_iret hx hb hr hlocks hQ hP hD hK hS dd_M_moves_28
  have hJ13 : ∀ (mth : Int32) (msd : Int32) (mrt : Int32) (mps : Int32) (mqt : Int32) (bd : Nat → Int32) (kp : Nat → Int32) (kS : Nat → Int32) (kR : Nat → Int32) (kP : Nat → Int32) (kQ : Nat → Int32) (li : Nat → Int32) (s1 : Int32) (H : Heap) (locs : List Loc) (ls : Array Slot), lv_has ls 1 [(0, .ref oM)] → va_P (dC, dI) classes [(oM, .inr (5, [.int mth, .int mpl, .ref obd, .int msd, .int mrt, .int mps, .int mqt, .int mmd, .ref opa, .ref opS, .ref opR, .ref opG, .ref opP, .ref opQ, .ref okp, .ref okS, .ref okR, .ref okP, .ref okQ, .ref oli])), (obd, .inl (cI, 64, .inl bd)), (opa, .inl (cI, 9664, .inl pa)), (opS, .inl (cI, 151, .inl pS)), (opR, .inl (cI, 151, .inl pR)), (opG, .inl (cI, 151, .inl pG)), (opP, .inl (cI, 151, .inl pP)), (opQ, .inl (cI, 151, .inl pQ)), (okp, .inl (cI, 256, .inl kp)), (okS, .inl (cI, 4, .inl kS)), (okR, .inl (cI, 4, .inl kR)), (okP, .inl (cI, 4, .inl kP)), (okQ, .inl (cI, 4, .inl kQ)), (oli, .inl (cI, 1320, .inl li))] H → va_D A [(oM, .inr (5, [.int mth, .int mpl, .ref obd, .int msd, .int mrt, .int mps, .int mqt, .int mmd, .ref opa, .ref opS, .ref opR, .ref opG, .ref opP, .ref opQ, .ref okp, .ref okS, .ref okR, .ref okP, .ref okQ, .ref oli])), (obd, .inl (cI, 64, .inl bd)), (opa, .inl (cI, 9664, .inl pa)), (opS, .inl (cI, 151, .inl pS)), (opR, .inl (cI, 151, .inl pR)), (opG, .inl (cI, 151, .inl pG)), (opP, .inl (cI, 151, .inl pP)), (opQ, .inl (cI, 151, .inl pQ)), (okp, .inl (cI, 256, .inl kp)), (okS, .inl (cI, 4, .inl kS)), (okR, .inl (cI, 4, .inl kR)), (okP, .inl (cI, 4, .inl kP)), (okQ, .inl (cI, 4, .inl kQ)), (oli, .inl (cI, 1320, .inl li))] → va_S A s.heap H locs → bk_M_moves_13 mpl mth msd mrt mps mqt bd kp kS kR kP kQ li s1 = some (rr, mth', msd', mrt', mps', mqt', bd', kp', kS', kR', kP', kQ', li') → W p l e rm_M_moves s m ([.ref oM] : List Value).toArray below meth c H locs 0 0 Q (F0 m 13 ls [.int s1, .ref oM]) := by
    intro mth msd mrt mps mqt bd kp kS kR kP kQ li s1 H locs ls hl hP hD hS hf
    rw [bk_M_moves_13] at hf
    obtain ⟨⟨r2001, mth_2002⟩, hy2002, hf⟩ := qq_bd hf
    dsimp only at hf
    refine qq_V (As := [.int s1]) (rest := []) (wr := []) (wf := [(oM, .inr (5, [.int mth_2002, .int mpl, .ref obd, .int msd, .int mrt, .int mps, .int mqt, .int mmd, .ref opa, .ref opS, .ref opR, .ref opG, .ref opP, .ref opQ, .ref okp, .ref okS, .ref okR, .ref okP, .ref okQ, .ref oli])), (obd, .inl (cI, 64, .inl bd)), (opa, .inl (cI, 9664, .inl pa)), (opS, .inl (cI, 151, .inl pS)), (opR, .inl (cI, 151, .inl pR)), (opG, .inl (cI, 151, .inl pG)), (opP, .inl (cI, 151, .inl pP)), (opQ, .inl (cI, 151, .inl pQ)), (okp, .inl (cI, 256, .inl kp)), (okS, .inl (cI, 4, .inl kS)), (okR, .inl (cI, 4, .inl kR)), (okP, .inl (cI, 4, .inl kP)), (okQ, .inl (cI, 4, .inl kQ)), (oli, .inl (cI, 1320, .inl li))]) ⟨hx, hb, hml, hown, hts⟩ (ct_M_refused l dC dI cI cL cR oM obd opa opS opR opG opP opQ okp okS okR okP okQ oli mth mpl msd mrt mps mqt mmd bd pa pS pR pG pP pQ kp kS kR kP kQ li s1 hy2002) mm_327 mm_328 mm_329 mm_326 mm_211 hd_M_refused (by decide) qq_00 hP hD hK hS hA hT hN (q0 := 0) (ci := 5) rfl rfl [0, 1, 2, 3, 4, 5, 6, 7, 8, 9, 10, 11, 12, 13] [] [0, 1, 2, 3, 4, 5, 6, 7, 8, 9, 10, 11, 12, 13] rfl rfl rfl (by decide) rfl hl.1 rfl (Nat.le_of_ble_eq_true rfl) dd_M_moves_13 (fun H locs hP hD hS => ?_)
    refine W.eq (g2 := F0 m 16 ls [.int r2001]) rfl ?_
    refine lv_if_eq (tgt := 23) hx hb dd_M_moves_16 (by decide) (fun hc => ?_) (fun hc => ?_)
    · replace hf := qq_t hc hf
      refine lv_aload_n hx hb dd_M_moves_23 rfl (lv_at hl 0 rfl) ?_
      refine lv_iconst (v := 0) hx hb dd_M_moves_24 (by decide) ?_
      obtain ⟨⟨r2003, msd_2004, mrt_2005, mps_2006, mqt_2007, bd_2008, kp_2009, kS_2010, kR_2011, kP_2012, kQ_2013, li_2014⟩, hy2014, hf⟩ := qq_bd hf
      dsimp only at hf
      refine qq_V (As := [.int 0]) (rest := []) (wr := []) (wf := [(oM, .inr (5, [.int mth_2002, .int mpl, .ref obd, .int msd_2004, .int mrt_2005, .int mps_2006, .int mqt_2007, .int mmd, .ref opa, .ref opS, .ref opR, .ref opG, .ref opP, .ref opQ, .ref okp, .ref okS, .ref okR, .ref okP, .ref okQ, .ref oli])), (obd, .inl (cI, 64, .inl bd_2008)), (opa, .inl (cI, 9664, .inl pa)), (opS, .inl (cI, 151, .inl pS)), (opR, .inl (cI, 151, .inl pR)), (opG, .inl (cI, 151, .inl pG)), (opP, .inl (cI, 151, .inl pP)), (opQ, .inl (cI, 151, .inl pQ)), (okp, .inl (cI, 256, .inl kp_2009)), (okS, .inl (cI, 4, .inl kS_2010)), (okR, .inl (cI, 4, .inl kR_2011)), (okP, .inl (cI, 4, .inl kP_2012)), (okQ, .inl (cI, 4, .inl kQ_2013)), (oli, .inl (cI, 1320, .inl li_2014))]) ⟨hx, hb, hml, hown, hts⟩ (ct_M_collect l dC dI cI cL cR oM obd opa opS opR opG opP opQ okp okS okR okP okQ oli mth_2002 mpl msd mrt mps mqt mmd bd pa pS pR pG pP pQ kp kS kR kP kQ li 0 hy2014) mm_303 mm_304 mm_305 mm_302 mm_211 hd_M_collect (by decide) qq_00 hP hD hK hS hA hT hN (q0 := 0) (ci := 5) rfl rfl [0, 1, 2, 3, 4, 5, 6, 7, 8, 9, 10, 11, 12, 13] [] [0, 1, 2, 3, 4, 5, 6, 7, 8, 9, 10, 11, 12, 13] rfl rfl rfl (by decide) rfl hl.1 rfl (Nat.le_of_ble_eq_true rfl) dd_M_moves_25 (fun H locs hP hD hS => ?_)
      refine W.eq (g2 := F0 m 28 ls [.int r2003]) rfl ?_
      exact hJ28 mth_2002 msd_2004 mrt_2005 mps_2006 mqt_2007 bd_2008 kp_2009 kS_2010 kR_2011 kP_2012 kQ_2013 li_2014 r2003 _ _ _ (lv_sub hl [] rfl) hP hD hS hf
    · replace hf := qq_f hc hf
      refine lv_iconst (v := 0) hx hb dd_M_moves_19 (by decide) ?_
      refine lv_goto (tgt := 28) hx hb dd_M_moves_20 (by decide) ?_
      exact hJ28 mth_2002 msd mrt mps mqt bd kp kS kR kP kQ li 0 _ _ _ (lv_sub hl [] rfl) hP hD hS hf
  rw [fn_M_moves] at hf
  refine lv_aload_n hx hb dd_M_moves_0 rfl (lv_at hl 0 rfl) ?_
  refine lv_aload_n hx hb dd_M_moves_1 rfl (lv_at hl 0 rfl) ?_
  refine va_get (D := (dC, dI)) (ci := 5) (v := .int mpl) (C := RR_M) (T := FF_M) (N := 20) hx hb hts uu_M hown hK hP 0 rfl rfl 1 (by decide) (hts _ mm_330) (fun _ h9 => h9) rfl dd_M_moves_2 ?_
  refine lv_if_eq (tgt := 12) hx hb dd_M_moves_5 (by decide) (fun hc => ?_) (fun hc => ?_)
  · replace hf := qq_t hc hf
    refine lv_iconst (v := 1) hx hb dd_M_moves_12 (by decide) ?_
    exact hJ13 mth msd mrt mps mqt bd kp kS kR kP kQ li 1 _ _ _ (lv_sub hl [0] rfl) hP hD hS hf
  · replace hf := qq_f hc hf
    refine lv_iconst (v := 0) hx hb dd_M_moves_8 (by decide) ?_
    refine lv_goto (tgt := 13) hx hb dd_M_moves_9 (by decide) ?_
    exact hJ13 mth msd mrt mps mqt bd kp kS kR kP kQ li 0 _ _ _ (lv_sub hl [0] rfl) hP hD hS hf
theorem dd_M_nth_0 : decode bb_M_nth 0 = .ok (.aload_n 0, 1) := by decide +kernel
theorem dd_M_nth_1 : decode bb_M_nth 1 = .ok (.aload_n 0, 1) := by decide +kernel
theorem dd_M_nth_2 : decode bb_M_nth 2 = .ok (.getfield 56, 3) := by decide +kernel
theorem dd_M_nth_5 : decode bb_M_nth 5 = .ok (.ifCond .eq 7, 3) := by decide +kernel
theorem dd_M_nth_8 : decode bb_M_nth 8 = .ok (.iconst 0, 1) := by decide +kernel
theorem dd_M_nth_9 : decode bb_M_nth 9 = .ok (.goto 4, 3) := by decide +kernel
theorem dd_M_nth_12 : decode bb_M_nth 12 = .ok (.iconst 1, 1) := by decide +kernel
theorem dd_M_nth_13 : decode bb_M_nth 13 = .ok (.invokevirtual 155, 3) := by decide +kernel
theorem dd_M_nth_16 : decode bb_M_nth 16 = .ok (.ifCond .eq 5, 3) := by decide +kernel
theorem dd_M_nth_19 : decode bb_M_nth 19 = .ok (.iconst 0, 1) := by decide +kernel
theorem dd_M_nth_20 : decode bb_M_nth 20 = .ok (.ireturn, 1) := by decide +kernel
theorem dd_M_nth_21 : decode bb_M_nth 21 = .ok (.aload_n 0, 1) := by decide +kernel
theorem dd_M_nth_22 : decode bb_M_nth 22 = .ok (.iconst 0, 1) := by decide +kernel
theorem dd_M_nth_23 : decode bb_M_nth 23 = .ok (.invokevirtual 138, 3) := by decide +kernel
theorem dd_M_nth_26 : decode bb_M_nth 26 = .ok (.istore_n 2, 1) := by decide +kernel
theorem dd_M_nth_27 : decode bb_M_nth 27 = .ok (.aload_n 0, 1) := by decide +kernel
theorem dd_M_nth_28 : decode bb_M_nth 28 = .ok (.iload_n 1, 1) := by decide +kernel
theorem dd_M_nth_29 : decode bb_M_nth 29 = .ok (.iconst 0, 1) := by decide +kernel
theorem dd_M_nth_30 : decode bb_M_nth 30 = .ok (.iload_n 2, 1) := by decide +kernel
theorem dd_M_nth_31 : decode bb_M_nth 31 = .ok (.iconst 1, 1) := by decide +kernel
theorem dd_M_nth_32 : decode bb_M_nth 32 = .ok (.isub, 1) := by decide +kernel
theorem dd_M_nth_33 : decode bb_M_nth 33 = .ok (.invokestatic 98, 3) := by decide +kernel
theorem dd_M_nth_36 : decode bb_M_nth 36 = .ok (.ifCond .eq 7, 3) := by decide +kernel
theorem dd_M_nth_39 : decode bb_M_nth 39 = .ok (.iconst 2, 1) := by decide +kernel
theorem dd_M_nth_40 : decode bb_M_nth 40 = .ok (.goto 4, 3) := by decide +kernel
theorem dd_M_nth_43 : decode bb_M_nth 43 = .ok (.iconst 0, 1) := by decide +kernel
theorem dd_M_nth_44 : decode bb_M_nth 44 = .ok (.invokevirtual 155, 3) := by decide +kernel
theorem dd_M_nth_47 : decode bb_M_nth 47 = .ok (.ifCond .eq 7, 3) := by decide +kernel
theorem dd_M_nth_50 : decode bb_M_nth 50 = .ok (.iconst 0, 1) := by decide +kernel
theorem dd_M_nth_51 : decode bb_M_nth 51 = .ok (.goto 9, 3) := by decide +kernel
theorem dd_M_nth_54 : decode bb_M_nth 54 = .ok (.aload_n 0, 1) := by decide +kernel
theorem dd_M_nth_55 : decode bb_M_nth 55 = .ok (.getfield 50, 3) := by decide +kernel
theorem dd_M_nth_58 : decode bb_M_nth 58 = .ok (.iload_n 1, 1) := by decide +kernel
theorem dd_M_nth_59 : decode bb_M_nth 59 = .ok (.iaload, 1) := by decide +kernel
theorem dd_M_nth_60 : decode bb_M_nth 60 = .ok (.ireturn, 1) := by decide +kernel
abbrev ty_M_nth : Type := Int32 × Int32 × Int32 × Int32 × Int32 × Int32 × (Nat → Int32) × (Nat → Int32) × (Nat → Int32) × (Nat → Int32) × (Nat → Int32) × (Nat → Int32) × (Nat → Int32)
noncomputable def bk_M_nth_60 (mpl : Int32) (a1 : Int32) (mth : Int32) (msd : Int32) (mrt : Int32) (mps : Int32) (mqt : Int32) (bd : Nat → Int32) (kp : Nat → Int32) (kS : Nat → Int32) (kR : Nat → Int32) (kP : Nat → Int32) (kQ : Nat → Int32) (li : Nat → Int32) (s0 : Int32) : Option ty_M_nth := some (s0, mth, msd, mrt, mps, mqt, bd, kp, kS, kR, kP, kQ, li)
noncomputable def bk_M_nth_44 (mpl : Int32) (a1 : Int32) (mth : Int32) (msd : Int32) (mrt : Int32) (mps : Int32) (mqt : Int32) (bd : Nat → Int32) (kp : Nat → Int32) (kS : Nat → Int32) (kR : Nat → Int32) (kP : Nat → Int32) (kQ : Nat → Int32) (li : Nat → Int32) (s1 : Int32) : Option ty_M_nth := (fn_M_refused mth s1).bind fun (r2001, mth_2002) => if r2001 = 0 then (qq_ck (qq_in a1 1320) <| bk_M_nth_60 mpl a1 mth_2002 msd mrt mps mqt bd kp kS kR kP kQ li (li a1.toNatClampNeg)) else (bk_M_nth_60 mpl a1 mth_2002 msd mrt mps mqt bd kp kS kR kP kQ li 0)
noncomputable def bk_M_nth_13 (mpl : Int32) (a1 : Int32) (mth : Int32) (msd : Int32) (mrt : Int32) (mps : Int32) (mqt : Int32) (bd : Nat → Int32) (kp : Nat → Int32) (kS : Nat → Int32) (kR : Nat → Int32) (kP : Nat → Int32) (kQ : Nat → Int32) (li : Nat → Int32) (s1 : Int32) : Option ty_M_nth := (fn_M_refused mth s1).bind fun (r3001, mth_3002) => if r3001 = 0 then ((fn_M_collect msd mrt mps mqt bd kp kS kR kP kQ li 0).bind fun (r3003, msd_3004, mrt_3005, mps_3006, mqt_3007, bd_3008, kp_3009, kS_3010, kR_3011, kP_3012, kQ_3013, li_3014) => (fn_M_outside a1 0 (r3003 - 1)).bind fun r3015 => if r3015 = 0 then (bk_M_nth_44 mpl a1 mth_3002 msd_3004 mrt_3005 mps_3006 mqt_3007 bd_3008 kp_3009 kS_3010 kR_3011 kP_3012 kQ_3013 li_3014 0) else (bk_M_nth_44 mpl a1 mth_3002 msd_3004 mrt_3005 mps_3006 mqt_3007 bd_3008 kp_3009 kS_3010 kR_3011 kP_3012 kQ_3013 li_3014 2)) else (some (0, mth_3002, msd, mrt, mps, mqt, bd, kp, kS, kR, kP, kQ, li))
noncomputable def fn_M_nth (mth : Int32) (mpl : Int32) (msd : Int32) (mrt : Int32) (mps : Int32) (mqt : Int32) (bd : Nat → Int32) (kp : Nat → Int32) (kS : Nat → Int32) (kR : Nat → Int32) (kP : Nat → Int32) (kQ : Nat → Int32) (li : Nat → Int32) (a1 : Int32) : Option ty_M_nth := if mpl = 0 then (bk_M_nth_13 mpl a1 mth msd mrt mps mqt bd kp kS kR kP kQ li 1) else (bk_M_nth_13 mpl a1 mth msd mrt mps mqt bd kp kS kR kP kQ li 0)
abbrev rm_M_nth : Room := { frames := 9, cells := 0, slots := 0, locals := 214 }
set_option maxHeartbeats 4000000 in
set_option maxRecDepth 100000 in
theorem ct_M_nth (l : Launch) (dC : Nat → ClassId) (dI : Nat → Nat → Nat) (cI cL cR : ClassId) (oM obd opa opS opR opG opP opQ okp okS okR okP okQ oli : Nat) (mth : Int32) (mpl : Int32) (msd : Int32) (mrt : Int32) (mps : Int32) (mqt : Int32) (mmd : Int32) (bd : Nat → Int32) (pa : Nat → Int32) (pS : Nat → Int32) (pR : Nat → Int32) (pG : Nat → Int32) (pP : Nat → Int32) (pQ : Nat → Int32) (kp : Nat → Int32) (kS : Nat → Int32) (kR : Nat → Int32) (kP : Nat → Int32) (kQ : Nat → Int32) (li : Nat → Int32) (a1 : Int32) {rr : Int32} {mth' : Int32} {msd' : Int32} {mrt' : Int32} {mps' : Int32} {mqt' : Int32} {bd' : Nat → Int32} {kp' : Nat → Int32} {kS' : Nat → Int32} {kR' : Nat → Int32} {kP' : Nat → Int32} {kQ' : Nat → Int32} {li' : Nat → Int32} (hf : fn_M_nth mth mpl msd mrt mps mqt bd kp kS kR kP kQ li a1 = some (rr, mth', msd', mrt', mps', mqt', bd', kp', kS', kR', kP', kQ', li')) : qq_det l yy_M_nth (ww_of yy_M_nth bb_M_nth 3 (some .int)) rm_M_nth (dC, dI) (qq_ty cI cL cR) [.ref oM, .int a1] [(oM, .inr (5, [.int mth, .int mpl, .ref obd, .int msd, .int mrt, .int mps, .int mqt, .int mmd, .ref opa, .ref opS, .ref opR, .ref opG, .ref opP, .ref opQ, .ref okp, .ref okS, .ref okR, .ref okP, .ref okQ, .ref oli])), (obd, .inl (cI, 64, .inl bd)), (opa, .inl (cI, 9664, .inl pa)), (opS, .inl (cI, 151, .inl pS)), (opR, .inl (cI, 151, .inl pR)), (opG, .inl (cI, 151, .inl pG)), (opP, .inl (cI, 151, .inl pP)), (opQ, .inl (cI, 151, .inl pQ)), (okp, .inl (cI, 256, .inl kp)), (okS, .inl (cI, 4, .inl kS)), (okR, .inl (cI, 4, .inl kR)), (okP, .inl (cI, 4, .inl kP)), (okQ, .inl (cI, 4, .inl kQ)), (oli, .inl (cI, 1320, .inl li))] (some (.int rr)) [(oM, .inr (5, [.int mth', .int mpl, .ref obd, .int msd', .int mrt', .int mps', .int mqt', .int mmd, .ref opa, .ref opS, .ref opR, .ref opG, .ref opP, .ref opQ, .ref okp, .ref okS, .ref okR, .ref okP, .ref okQ, .ref oli])), (obd, .inl (cI, 64, .inl bd')), (opa, .inl (cI, 9664, .inl pa)), (opS, .inl (cI, 151, .inl pS)), (opR, .inl (cI, 151, .inl pR)), (opG, .inl (cI, 151, .inl pG)), (opP, .inl (cI, 151, .inl pP)), (opQ, .inl (cI, 151, .inl pQ)), (okp, .inl (cI, 256, .inl kp')), (okS, .inl (cI, 4, .inl kS')), (okR, .inl (cI, 4, .inl kR')), (okP, .inl (cI, 4, .inl kP')), (okQ, .inl (cI, 4, .inl kQ')), (oli, .inl (cI, 1320, .inl li'))] := by
  refine qq_of (own := RR_M) (by decide) rfl (Nat.le_of_ble_eq_true rfl) ?_
  intro p e s m below meth c A Q ls hx hb hml hr hlocks hown hts hK hA hT hN hP hD hS hl hQ
  have hl : lv_has ls 3 [(0, .ref oM), (1, .int a1)] := hl
  have hJ60 : ∀ (mth : Int32) (msd : Int32) (mrt : Int32) (mps : Int32) (mqt : Int32) (bd : Nat → Int32) (kp : Nat → Int32) (kS : Nat → Int32) (kR : Nat → Int32) (kP : Nat → Int32) (kQ : Nat → Int32) (li : Nat → Int32) (s0 : Int32) (H : Heap) (locs : List Loc) (ls : Array Slot), lv_has ls 3 [] → va_P (dC, dI) classes [(oM, .inr (5, [.int mth, .int mpl, .ref obd, .int msd, .int mrt, .int mps, .int mqt, .int mmd, .ref opa, .ref opS, .ref opR, .ref opG, .ref opP, .ref opQ, .ref okp, .ref okS, .ref okR, .ref okP, .ref okQ, .ref oli])), (obd, .inl (cI, 64, .inl bd)), (opa, .inl (cI, 9664, .inl pa)), (opS, .inl (cI, 151, .inl pS)), (opR, .inl (cI, 151, .inl pR)), (opG, .inl (cI, 151, .inl pG)), (opP, .inl (cI, 151, .inl pP)), (opQ, .inl (cI, 151, .inl pQ)), (okp, .inl (cI, 256, .inl kp)), (okS, .inl (cI, 4, .inl kS)), (okR, .inl (cI, 4, .inl kR)), (okP, .inl (cI, 4, .inl kP)), (okQ, .inl (cI, 4, .inl kQ)), (oli, .inl (cI, 1320, .inl li))] H → va_D A [(oM, .inr (5, [.int mth, .int mpl, .ref obd, .int msd, .int mrt, .int mps, .int mqt, .int mmd, .ref opa, .ref opS, .ref opR, .ref opG, .ref opP, .ref opQ, .ref okp, .ref okS, .ref okR, .ref okP, .ref okQ, .ref oli])), (obd, .inl (cI, 64, .inl bd)), (opa, .inl (cI, 9664, .inl pa)), (opS, .inl (cI, 151, .inl pS)), (opR, .inl (cI, 151, .inl pR)), (opG, .inl (cI, 151, .inl pG)), (opP, .inl (cI, 151, .inl pP)), (opQ, .inl (cI, 151, .inl pQ)), (okp, .inl (cI, 256, .inl kp)), (okS, .inl (cI, 4, .inl kS)), (okR, .inl (cI, 4, .inl kR)), (okP, .inl (cI, 4, .inl kP)), (okQ, .inl (cI, 4, .inl kQ)), (oli, .inl (cI, 1320, .inl li))] → va_S A s.heap H locs → bk_M_nth_60 mpl a1 mth msd mrt mps mqt bd kp kS kR kP kQ li s0 = some (rr, mth', msd', mrt', mps', mqt', bd', kp', kS', kR', kP', kQ', li') → W p l e rm_M_nth s m ([.ref oM, .int a1] : List Value).toArray below meth c H locs 0 0 Q (F0 m 60 ls [.int s0]) := by
    intro mth msd mrt mps mqt bd kp kS kR kP kQ li s0 H locs ls hl hP hD hS hf
    rw [bk_M_nth_60] at hf
    cases hf
    exact qq_iret hx hb hr hlocks hQ hP hD hK hS dd_M_nth_60
  have hJ44 : ∀ (mth : Int32) (msd : Int32) (mrt : Int32) (mps : Int32) (mqt : Int32) (bd : Nat → Int32) (kp : Nat → Int32) (kS : Nat → Int32) (kR : Nat → Int32) (kP : Nat → Int32) (kQ : Nat → Int32) (li : Nat → Int32) (s1 : Int32) (H : Heap) (locs : List Loc) (ls : Array Slot), lv_has ls 3 [(0, .ref oM), (1, .int a1)] → va_P (dC, dI) classes [(oM, .inr (5, [.int mth, .int mpl, .ref obd, .int msd, .int mrt, .int mps, .int mqt, .int mmd, .ref opa, .ref opS, .ref opR, .ref opG, .ref opP, .ref opQ, .ref okp, .ref okS, .ref okR, .ref okP, .ref okQ, .ref oli])), (obd, .inl (cI, 64, .inl bd)), (opa, .inl (cI, 9664, .inl pa)), (opS, .inl (cI, 151, .inl pS)), (opR, .inl (cI, 151, .inl pR)), (opG, .inl (cI, 151, .inl pG)), (opP, .inl (cI, 151, .inl pP)), (opQ, .inl (cI, 151, .inl pQ)), (okp, .inl (cI, 256, .inl kp)), (okS, .inl (cI, 4, .inl kS)), (okR, .inl (cI, 4, .inl kR)), (okP, .inl (cI, 4, .inl kP)), (okQ, .inl (cI, 4, .inl kQ)), (oli, .inl (cI, 1320, .inl li))] H → va_D A [(oM, .inr (5, [.int mth, .int mpl, .ref obd, .int msd, .int mrt, .int mps, .int mqt, .int mmd, .ref opa, .ref opS, .ref opR, .ref opG, .ref opP, .ref opQ, .ref okp, .ref okS, .ref okR, .ref okP, .ref okQ, .ref oli])), (obd, .inl (cI, 64, .inl bd)), (opa, .inl (cI, 9664, .inl pa)), (opS, .inl (cI, 151, .inl pS)), (opR, .inl (cI, 151, .inl pR)), (opG, .inl (cI, 151, .inl pG)), (opP, .inl (cI, 151, .inl pP)), (opQ, .inl (cI, 151, .inl pQ)), (okp, .inl (cI, 256, .inl kp)), (okS, .inl (cI, 4, .inl kS)), (okR, .inl (cI, 4, .inl kR)), (okP, .inl (cI, 4, .inl kP)), (okQ, .inl (cI, 4, .inl kQ)), (oli, .inl (cI, 1320, .inl li))] → va_S A s.heap H locs → bk_M_nth_44 mpl a1 mth msd mrt mps mqt bd kp kS kR kP kQ li s1 = some (rr, mth', msd', mrt', mps', mqt', bd', kp', kS', kR', kP', kQ', li') → W p l e rm_M_nth s m ([.ref oM, .int a1] : List Value).toArray below meth c H locs 0 0 Q (F0 m 44 ls [.int s1, .ref oM]) := by
    intro mth msd mrt mps mqt bd kp kS kR kP kQ li s1 H locs ls hl hP hD hS hf
    rw [bk_M_nth_44] at hf
    obtain ⟨⟨r2001, mth_2002⟩, hy2002, hf⟩ := qq_bd hf
    dsimp only at hf
    refine qq_V (As := [.int s1]) (rest := []) (wr := []) (wf := [(oM, .inr (5, [.int mth_2002, .int mpl, .ref obd, .int msd, .int mrt, .int mps, .int mqt, .int mmd, .ref opa, .ref opS, .ref opR, .ref opG, .ref opP, .ref opQ, .ref okp, .ref okS, .ref okR, .ref okP, .ref okQ, .ref oli])), (obd, .inl (cI, 64, .inl bd)), (opa, .inl (cI, 9664, .inl pa)), (opS, .inl (cI, 151, .inl pS)), (opR, .inl (cI, 151, .inl pR)), (opG, .inl (cI, 151, .inl pG)), (opP, .inl (cI, 151, .inl pP)), (opQ, .inl (cI, 151, .inl pQ)), (okp, .inl (cI, 256, .inl kp)), (okS, .inl (cI, 4, .inl kS)), (okR, .inl (cI, 4, .inl kR)), (okP, .inl (cI, 4, .inl kP)), (okQ, .inl (cI, 4, .inl kQ)), (oli, .inl (cI, 1320, .inl li))]) ⟨hx, hb, hml, hown, hts⟩ (ct_M_refused l dC dI cI cL cR oM obd opa opS opR opG opP opQ okp okS okR okP okQ oli mth mpl msd mrt mps mqt mmd bd pa pS pR pG pP pQ kp kS kR kP kQ li s1 hy2002) mm_327 mm_328 mm_329 mm_326 mm_211 hd_M_refused (by decide) qq_00 hP hD hK hS hA hT hN (q0 := 0) (ci := 5) rfl rfl [0, 1, 2, 3, 4, 5, 6, 7, 8, 9, 10, 11, 12, 13] [] [0, 1, 2, 3, 4, 5, 6, 7, 8, 9, 10, 11, 12, 13] rfl rfl rfl (by decide) rfl hl.1 rfl (Nat.le_of_ble_eq_true rfl) dd_M_nth_44 (fun H locs hP hD hS => ?_)
    refine W.eq (g2 := F0 m 47 ls [.int r2001]) rfl ?_
    refine lv_if_eq (tgt := 54) hx hb dd_M_nth_47 (by decide) (fun hc => ?_) (fun hc => ?_)
    · replace hf := qq_t hc hf
      refine lv_aload_n hx hb dd_M_nth_54 rfl (lv_at hl 0 rfl) ?_
      refine va_get (D := (dC, dI)) (ci := 5) (v := .ref oli) (C := RR_M) (T := FF_M) (N := 20) hx hb hts uu_M hown hK hP 0 rfl rfl 19 (by decide) (hts _ mm_293) (fun _ h9 => h9) rfl dd_M_nth_55 ?_
      refine lv_iload_n hx hb dd_M_nth_58 rfl (lv_at hl 1 rfl) ?_
      obtain ⟨hi2003, hf⟩ := qq_ckE hf
      refine va_iald (D := (dC, dI)) (f := li) (n := 1320) (cA := cI) hx hb hK hP 13 0 rfl rfl (qq_inE hi2003) dd_M_nth_59 ?_
      exact hJ60 mth_2002 msd mrt mps mqt bd kp kS kR kP kQ li (li a1.toNatClampNeg) _ _ _ (lv_sub hl [] rfl) hP hD hS hf
    · replace hf := qq_f hc hf
      refine lv_iconst (v := 0) hx hb dd_M_nth_50 (by decide) ?_
      refine lv_goto (tgt := 60) hx hb dd_M_nth_51 (by decide) ?_
      exact hJ60 mth_2002 msd mrt mps mqt bd kp kS kR kP kQ li 0 _ _ _ (lv_sub hl [] rfl) hP hD hS hf
  have hJ13 : ∀ (mth : Int32) (msd : Int32) (mrt : Int32) (mps : Int32) (mqt : Int32) (bd : Nat → Int32) (kp : Nat → Int32) (kS : Nat → Int32) (kR : Nat → Int32) (kP : Nat → Int32) (kQ : Nat → Int32) (li : Nat → Int32) (s1 : Int32) (H : Heap) (locs : List Loc) (ls : Array Slot), lv_has ls 3 [(0, .ref oM), (1, .int a1)] → va_P (dC, dI) classes [(oM, .inr (5, [.int mth, .int mpl, .ref obd, .int msd, .int mrt, .int mps, .int mqt, .int mmd, .ref opa, .ref opS, .ref opR, .ref opG, .ref opP, .ref opQ, .ref okp, .ref okS, .ref okR, .ref okP, .ref okQ, .ref oli])), (obd, .inl (cI, 64, .inl bd)), (opa, .inl (cI, 9664, .inl pa)), (opS, .inl (cI, 151, .inl pS)), (opR, .inl (cI, 151, .inl pR)), (opG, .inl (cI, 151, .inl pG)), (opP, .inl (cI, 151, .inl pP)), (opQ, .inl (cI, 151, .inl pQ)), (okp, .inl (cI, 256, .inl kp)), (okS, .inl (cI, 4, .inl kS)), (okR, .inl (cI, 4, .inl kR)), (okP, .inl (cI, 4, .inl kP)), (okQ, .inl (cI, 4, .inl kQ)), (oli, .inl (cI, 1320, .inl li))] H → va_D A [(oM, .inr (5, [.int mth, .int mpl, .ref obd, .int msd, .int mrt, .int mps, .int mqt, .int mmd, .ref opa, .ref opS, .ref opR, .ref opG, .ref opP, .ref opQ, .ref okp, .ref okS, .ref okR, .ref okP, .ref okQ, .ref oli])), (obd, .inl (cI, 64, .inl bd)), (opa, .inl (cI, 9664, .inl pa)), (opS, .inl (cI, 151, .inl pS)), (opR, .inl (cI, 151, .inl pR)), (opG, .inl (cI, 151, .inl pG)), (opP, .inl (cI, 151, .inl pP)), (opQ, .inl (cI, 151, .inl pQ)), (okp, .inl (cI, 256, .inl kp)), (okS, .inl (cI, 4, .inl kS)), (okR, .inl (cI, 4, .inl kR)), (okP, .inl (cI, 4, .inl kP)), (okQ, .inl (cI, 4, .inl kQ)), (oli, .inl (cI, 1320, .inl li))] → va_S A s.heap H locs → bk_M_nth_13 mpl a1 mth msd mrt mps mqt bd kp kS kR kP kQ li s1 = some (rr, mth', msd', mrt', mps', mqt', bd', kp', kS', kR', kP', kQ', li') → W p l e rm_M_nth s m ([.ref oM, .int a1] : List Value).toArray below meth c H locs 0 0 Q (F0 m 13 ls [.int s1, .ref oM]) := by
    intro mth msd mrt mps mqt bd kp kS kR kP kQ li s1 H locs ls hl hP hD hS hf
    rw [bk_M_nth_13] at hf
    obtain ⟨⟨r3001, mth_3002⟩, hy3002, hf⟩ := qq_bd hf
    dsimp only at hf
    refine qq_V (As := [.int s1]) (rest := []) (wr := []) (wf := [(oM, .inr (5, [.int mth_3002, .int mpl, .ref obd, .int msd, .int mrt, .int mps, .int mqt, .int mmd, .ref opa, .ref opS, .ref opR, .ref opG, .ref opP, .ref opQ, .ref okp, .ref okS, .ref okR, .ref okP, .ref okQ, .ref oli])), (obd, .inl (cI, 64, .inl bd)), (opa, .inl (cI, 9664, .inl pa)), (opS, .inl (cI, 151, .inl pS)), (opR, .inl (cI, 151, .inl pR)), (opG, .inl (cI, 151, .inl pG)), (opP, .inl (cI, 151, .inl pP)), (opQ, .inl (cI, 151, .inl pQ)), (okp, .inl (cI, 256, .inl kp)), (okS, .inl (cI, 4, .inl kS)), (okR, .inl (cI, 4, .inl kR)), (okP, .inl (cI, 4, .inl kP)), (okQ, .inl (cI, 4, .inl kQ)), (oli, .inl (cI, 1320, .inl li))]) ⟨hx, hb, hml, hown, hts⟩ (ct_M_refused l dC dI cI cL cR oM obd opa opS opR opG opP opQ okp okS okR okP okQ oli mth mpl msd mrt mps mqt mmd bd pa pS pR pG pP pQ kp kS kR kP kQ li s1 hy3002) mm_327 mm_328 mm_329 mm_326 mm_211 hd_M_refused (by decide) qq_00 hP hD hK hS hA hT hN (q0 := 0) (ci := 5) rfl rfl [0, 1, 2, 3, 4, 5, 6, 7, 8, 9, 10, 11, 12, 13] [] [0, 1, 2, 3, 4, 5, 6, 7, 8, 9, 10, 11, 12, 13] rfl rfl rfl (by decide) rfl hl.1 rfl (Nat.le_of_ble_eq_true rfl) dd_M_nth_13 (fun H locs hP hD hS => ?_)
    refine W.eq (g2 := F0 m 16 ls [.int r3001]) rfl ?_
    refine lv_if_eq (tgt := 21) hx hb dd_M_nth_16 (by decide) (fun hc => ?_) (fun hc => ?_)
    · replace hf := qq_t hc hf
      refine lv_aload_n hx hb dd_M_nth_21 rfl (lv_at hl 0 rfl) ?_
      refine lv_iconst (v := 0) hx hb dd_M_nth_22 (by decide) ?_
      obtain ⟨⟨r3003, msd_3004, mrt_3005, mps_3006, mqt_3007, bd_3008, kp_3009, kS_3010, kR_3011, kP_3012, kQ_3013, li_3014⟩, hy3014, hf⟩ := qq_bd hf
      dsimp only at hf
      refine qq_V (As := [.int 0]) (rest := []) (wr := []) (wf := [(oM, .inr (5, [.int mth_3002, .int mpl, .ref obd, .int msd_3004, .int mrt_3005, .int mps_3006, .int mqt_3007, .int mmd, .ref opa, .ref opS, .ref opR, .ref opG, .ref opP, .ref opQ, .ref okp, .ref okS, .ref okR, .ref okP, .ref okQ, .ref oli])), (obd, .inl (cI, 64, .inl bd_3008)), (opa, .inl (cI, 9664, .inl pa)), (opS, .inl (cI, 151, .inl pS)), (opR, .inl (cI, 151, .inl pR)), (opG, .inl (cI, 151, .inl pG)), (opP, .inl (cI, 151, .inl pP)), (opQ, .inl (cI, 151, .inl pQ)), (okp, .inl (cI, 256, .inl kp_3009)), (okS, .inl (cI, 4, .inl kS_3010)), (okR, .inl (cI, 4, .inl kR_3011)), (okP, .inl (cI, 4, .inl kP_3012)), (okQ, .inl (cI, 4, .inl kQ_3013)), (oli, .inl (cI, 1320, .inl li_3014))]) ⟨hx, hb, hml, hown, hts⟩ (ct_M_collect l dC dI cI cL cR oM obd opa opS opR opG opP opQ okp okS okR okP okQ oli mth_3002 mpl msd mrt mps mqt mmd bd pa pS pR pG pP pQ kp kS kR kP kQ li 0 hy3014) mm_303 mm_304 mm_305 mm_302 mm_211 hd_M_collect (by decide) qq_00 hP hD hK hS hA hT hN (q0 := 0) (ci := 5) rfl rfl [0, 1, 2, 3, 4, 5, 6, 7, 8, 9, 10, 11, 12, 13] [] [0, 1, 2, 3, 4, 5, 6, 7, 8, 9, 10, 11, 12, 13] rfl rfl rfl (by decide) rfl hl.1 rfl (Nat.le_of_ble_eq_true rfl) dd_M_nth_23 (fun H locs hP hD hS => ?_)
      refine W.eq (g2 := F0 m 26 ls [.int r3003]) rfl ?_
      refine lv_istore_n (lv' := [(2, .int r3003), (0, .ref oM), (1, .int a1)]) hx hb dd_M_nth_26 rfl hl (by decide) rfl (fun ls hl => ?_)
      refine lv_aload_n hx hb dd_M_nth_27 rfl (lv_at hl 1 rfl) ?_
      refine lv_iload_n hx hb dd_M_nth_28 rfl (lv_at hl 2 rfl) ?_
      refine lv_iconst (v := 0) hx hb dd_M_nth_29 (by decide) ?_
      refine lv_iload_n hx hb dd_M_nth_30 rfl (lv_at hl 0 rfl) ?_
      refine lv_iconst (v := 1) hx hb dd_M_nth_31 (by decide) ?_
      refine lv_isub hx hb dd_M_nth_32 ?_
      obtain ⟨r3015, hy3015, hf⟩ := qq_bd hf
      refine qq_S (As := [.int a1, .int 0, .int (r3003 - 1)]) (rest := [.ref oM]) (wr := [(oM, .inr (5, [.int mth_3002, .int mpl, .ref obd, .int msd_3004, .int mrt_3005, .int mps_3006, .int mqt_3007, .int mmd, .ref opa, .ref opS, .ref opR, .ref opG, .ref opP, .ref opQ, .ref okp, .ref okS, .ref okR, .ref okP, .ref okQ, .ref oli])), (obd, .inl (cI, 64, .inl bd_3008)), (opa, .inl (cI, 9664, .inl pa)), (opS, .inl (cI, 151, .inl pS)), (opR, .inl (cI, 151, .inl pR)), (opG, .inl (cI, 151, .inl pG)), (opP, .inl (cI, 151, .inl pP)), (opQ, .inl (cI, 151, .inl pQ)), (okp, .inl (cI, 256, .inl kp_3009)), (okS, .inl (cI, 4, .inl kS_3010)), (okR, .inl (cI, 4, .inl kR_3011)), (okP, .inl (cI, 4, .inl kP_3012)), (okQ, .inl (cI, 4, .inl kQ_3013)), (oli, .inl (cI, 1320, .inl li_3014))]) (wf := [(oM, .inr (5, [.int mth_3002, .int mpl, .ref obd, .int msd_3004, .int mrt_3005, .int mps_3006, .int mqt_3007, .int mmd, .ref opa, .ref opS, .ref opR, .ref opG, .ref opP, .ref opQ, .ref okp, .ref okS, .ref okR, .ref okP, .ref okQ, .ref oli])), (obd, .inl (cI, 64, .inl bd_3008)), (opa, .inl (cI, 9664, .inl pa)), (opS, .inl (cI, 151, .inl pS)), (opR, .inl (cI, 151, .inl pR)), (opG, .inl (cI, 151, .inl pG)), (opP, .inl (cI, 151, .inl pP)), (opQ, .inl (cI, 151, .inl pQ)), (okp, .inl (cI, 256, .inl kp_3009)), (okS, .inl (cI, 4, .inl kS_3010)), (okR, .inl (cI, 4, .inl kR_3011)), (okP, .inl (cI, 4, .inl kP_3012)), (okQ, .inl (cI, 4, .inl kQ_3013)), (oli, .inl (cI, 1320, .inl li_3014))]) ⟨hx, hb, hml, hown, hts⟩ (ct_M_outside l dC dI cI cL cR a1 0 (r3003 - 1) hy3015) mm_238 mm_239 mm_237 mm_211 hd_M_outside (by decide) qq_00 hP hD hK hS hA hT hN [] [0, 1, 2, 3, 4, 5, 6, 7, 8, 9, 10, 11, 12, 13] [0, 1, 2, 3, 4, 5, 6, 7, 8, 9, 10, 11, 12, 13] rfl rfl rfl (by decide) rfl hl.1 rfl (Nat.le_of_ble_eq_true rfl) dd_M_nth_33 (fun H locs hP hD hS => ?_)
      refine W.eq (g2 := F0 m 36 ls [.int r3015, .ref oM]) rfl ?_
      refine lv_if_eq (tgt := 43) hx hb dd_M_nth_36 (by decide) (fun hc => ?_) (fun hc => ?_)
      · replace hf := qq_t hc hf
        refine lv_iconst (v := 0) hx hb dd_M_nth_43 (by decide) ?_
        exact hJ44 mth_3002 msd_3004 mrt_3005 mps_3006 mqt_3007 bd_3008 kp_3009 kS_3010 kR_3011 kP_3012 kQ_3013 li_3014 0 _ _ _ (lv_sub hl [1, 2] rfl) hP hD hS hf
      · replace hf := qq_f hc hf
        refine lv_iconst (v := 2) hx hb dd_M_nth_39 (by decide) ?_
        refine lv_goto (tgt := 44) hx hb dd_M_nth_40 (by decide) ?_
        exact hJ44 mth_3002 msd_3004 mrt_3005 mps_3006 mqt_3007 bd_3008 kp_3009 kS_3010 kR_3011 kP_3012 kQ_3013 li_3014 2 _ _ _ (lv_sub hl [1, 2] rfl) hP hD hS hf
    · replace hf := qq_f hc hf
      refine lv_iconst (v := 0) hx hb dd_M_nth_19 (by decide) ?_
      cases hf
      exact qq_iret hx hb hr hlocks hQ hP hD hK hS dd_M_nth_20
  rw [fn_M_nth] at hf
  refine lv_aload_n hx hb dd_M_nth_0 rfl (lv_at hl 0 rfl) ?_
  refine lv_aload_n hx hb dd_M_nth_1 rfl (lv_at hl 0 rfl) ?_
  refine va_get (D := (dC, dI)) (ci := 5) (v := .int mpl) (C := RR_M) (T := FF_M) (N := 20) hx hb hts uu_M hown hK hP 0 rfl rfl 1 (by decide) (hts _ mm_330) (fun _ h9 => h9) rfl dd_M_nth_2 ?_
  refine lv_if_eq (tgt := 12) hx hb dd_M_nth_5 (by decide) (fun hc => ?_) (fun hc => ?_)
  · replace hf := qq_t hc hf
    refine lv_iconst (v := 1) hx hb dd_M_nth_12 (by decide) ?_
    exact hJ13 mth msd mrt mps mqt bd kp kS kR kP kQ li 1 _ _ _ (lv_sub hl [0, 1] rfl) hP hD hS hf
  · replace hf := qq_f hc hf
    refine lv_iconst (v := 0) hx hb dd_M_nth_8 (by decide) ?_
    refine lv_goto (tgt := 13) hx hb dd_M_nth_9 (by decide) ?_
    exact hJ13 mth msd mrt mps mqt bd kp kS kR kP kQ li 0 _ _ _ (lv_sub hl [0, 1] rfl) hP hD hS hf
theorem dd_M_passed_0 : decode bb_M_passed 0 = .ok (.aload_n 0, 1) := by decide +kernel
theorem dd_M_passed_1 : decode bb_M_passed 1 = .ok (.iconst 0, 1) := by decide +kernel
theorem dd_M_passed_2 : decode bb_M_passed 2 = .ok (.putfield 63, 3) := by decide +kernel
theorem dd_M_passed_5 : decode bb_M_passed 5 = .ok (.aload_n 0, 1) := by decide +kernel
theorem dd_M_passed_6 : decode bb_M_passed 6 = .ok (.getfield 13, 3) := by decide +kernel
theorem dd_M_passed_9 : decode bb_M_passed 9 = .ok (.ireturn, 1) := by decide +kernel
abbrev ty_M_passed : Type := Int32 × Int32
noncomputable def fn_M_passed (mth : Int32) (mps : Int32) : Option ty_M_passed := some (mps, 0)
abbrev rm_M_passed : Room := { frames := 0, cells := 0, slots := 0, locals := 0 }
set_option maxHeartbeats 4000000 in
set_option maxRecDepth 100000 in
theorem ct_M_passed (l : Launch) (dC : Nat → ClassId) (dI : Nat → Nat → Nat) (cI cL cR : ClassId) (oM obd opa opS opR opG opP opQ okp okS okR okP okQ oli : Nat) (mth : Int32) (mpl : Int32) (msd : Int32) (mrt : Int32) (mps : Int32) (mqt : Int32) (mmd : Int32) (bd : Nat → Int32) (pa : Nat → Int32) (pS : Nat → Int32) (pR : Nat → Int32) (pG : Nat → Int32) (pP : Nat → Int32) (pQ : Nat → Int32) (kp : Nat → Int32) (kS : Nat → Int32) (kR : Nat → Int32) (kP : Nat → Int32) (kQ : Nat → Int32) (li : Nat → Int32) {rr : Int32} {mth' : Int32} (hf : fn_M_passed mth mps = some (rr, mth')) : qq_det l yy_M_passed (ww_of yy_M_passed bb_M_passed 1 (some .int)) rm_M_passed (dC, dI) (qq_ty cI cL cR) [.ref oM] [(oM, .inr (5, [.int mth, .int mpl, .ref obd, .int msd, .int mrt, .int mps, .int mqt, .int mmd, .ref opa, .ref opS, .ref opR, .ref opG, .ref opP, .ref opQ, .ref okp, .ref okS, .ref okR, .ref okP, .ref okQ, .ref oli])), (obd, .inl (cI, 64, .inl bd)), (opa, .inl (cI, 9664, .inl pa)), (opS, .inl (cI, 151, .inl pS)), (opR, .inl (cI, 151, .inl pR)), (opG, .inl (cI, 151, .inl pG)), (opP, .inl (cI, 151, .inl pP)), (opQ, .inl (cI, 151, .inl pQ)), (okp, .inl (cI, 256, .inl kp)), (okS, .inl (cI, 4, .inl kS)), (okR, .inl (cI, 4, .inl kR)), (okP, .inl (cI, 4, .inl kP)), (okQ, .inl (cI, 4, .inl kQ)), (oli, .inl (cI, 1320, .inl li))] (some (.int rr)) [(oM, .inr (5, [.int mth', .int mpl, .ref obd, .int msd, .int mrt, .int mps, .int mqt, .int mmd, .ref opa, .ref opS, .ref opR, .ref opG, .ref opP, .ref opQ, .ref okp, .ref okS, .ref okR, .ref okP, .ref okQ, .ref oli])), (obd, .inl (cI, 64, .inl bd)), (opa, .inl (cI, 9664, .inl pa)), (opS, .inl (cI, 151, .inl pS)), (opR, .inl (cI, 151, .inl pR)), (opG, .inl (cI, 151, .inl pG)), (opP, .inl (cI, 151, .inl pP)), (opQ, .inl (cI, 151, .inl pQ)), (okp, .inl (cI, 256, .inl kp)), (okS, .inl (cI, 4, .inl kS)), (okR, .inl (cI, 4, .inl kR)), (okP, .inl (cI, 4, .inl kP)), (okQ, .inl (cI, 4, .inl kQ)), (oli, .inl (cI, 1320, .inl li))] := by
  refine qq_of (own := RR_M) (by decide) rfl (Nat.le_of_ble_eq_true rfl) ?_
  intro p e s m below meth c A Q ls hx hb hml hr hlocks hown hts hK hA hT hN hP hD hS hl hQ
  have hl : lv_has ls 1 [(0, .ref oM)] := hl
  rw [fn_M_passed] at hf
  refine lv_aload_n hx hb dd_M_passed_0 rfl (lv_at hl 0 rfl) ?_
  refine lv_iconst (v := 0) hx hb dd_M_passed_1 (by decide) ?_
  refine va_put (D := (dC, dI)) (ci := 5) (v := .int 0) (ty := .int) (C := RR_M) (T := FF_M) (N := 20) hx hb hts uu_M tt_M tt_M_ok nn_M hown hK hP hD hS 0 rfl rfl 0 (by decide) (hts _ mm_310) (fun _ h9 => h9) rfl (by decide +kernel) rfl rfl (Nat.le_of_ble_eq_true rfl) dd_M_passed_2 (fun H locs hP hD hS => ?_)
  have hP : va_P (dC, dI) classes [(oM, .inr (5, [.int 0, .int mpl, .ref obd, .int msd, .int mrt, .int mps, .int mqt, .int mmd, .ref opa, .ref opS, .ref opR, .ref opG, .ref opP, .ref opQ, .ref okp, .ref okS, .ref okR, .ref okP, .ref okQ, .ref oli])), (obd, .inl (cI, 64, .inl bd)), (opa, .inl (cI, 9664, .inl pa)), (opS, .inl (cI, 151, .inl pS)), (opR, .inl (cI, 151, .inl pR)), (opG, .inl (cI, 151, .inl pG)), (opP, .inl (cI, 151, .inl pP)), (opQ, .inl (cI, 151, .inl pQ)), (okp, .inl (cI, 256, .inl kp)), (okS, .inl (cI, 4, .inl kS)), (okR, .inl (cI, 4, .inl kR)), (okP, .inl (cI, 4, .inl kP)), (okQ, .inl (cI, 4, .inl kQ)), (oli, .inl (cI, 1320, .inl li))] H := hP
  have hD : va_D A [(oM, .inr (5, [.int 0, .int mpl, .ref obd, .int msd, .int mrt, .int mps, .int mqt, .int mmd, .ref opa, .ref opS, .ref opR, .ref opG, .ref opP, .ref opQ, .ref okp, .ref okS, .ref okR, .ref okP, .ref okQ, .ref oli])), (obd, .inl (cI, 64, .inl bd)), (opa, .inl (cI, 9664, .inl pa)), (opS, .inl (cI, 151, .inl pS)), (opR, .inl (cI, 151, .inl pR)), (opG, .inl (cI, 151, .inl pG)), (opP, .inl (cI, 151, .inl pP)), (opQ, .inl (cI, 151, .inl pQ)), (okp, .inl (cI, 256, .inl kp)), (okS, .inl (cI, 4, .inl kS)), (okR, .inl (cI, 4, .inl kR)), (okP, .inl (cI, 4, .inl kP)), (okQ, .inl (cI, 4, .inl kQ)), (oli, .inl (cI, 1320, .inl li))] := hD
  refine lv_aload_n hx hb dd_M_passed_5 rfl (lv_at hl 0 rfl) ?_
  refine va_get (D := (dC, dI)) (ci := 5) (v := .int mps) (C := RR_M) (T := FF_M) (N := 20) hx hb hts uu_M hown hK hP 0 rfl rfl 5 (by decide) (hts _ mm_227) (fun _ h9 => h9) rfl dd_M_passed_6 ?_
  cases hf
  exact qq_iret hx hb hr hlocks hQ hP hD hK hS dd_M_passed_9
theorem dd_M_put_0 : decode bb_M_put 0 = .ok (.aload_n 0, 1) := by decide +kernel
theorem dd_M_put_1 : decode bb_M_put 1 = .ok (.aload_n 0, 1) := by decide +kernel
theorem dd_M_put_2 : decode bb_M_put 2 = .ok (.getfield 56, 3) := by decide +kernel
theorem dd_M_put_5 : decode bb_M_put 5 = .ok (.ifCond .eq 7, 3) := by decide +kernel
theorem dd_M_put_8 : decode bb_M_put 8 = .ok (.iconst 1, 1) := by decide +kernel
theorem dd_M_put_9 : decode bb_M_put 9 = .ok (.goto 28, 3) := by decide +kernel
theorem dd_M_put_12 : decode bb_M_put 12 = .ok (.iload_n 1, 1) := by decide +kernel
theorem dd_M_put_13 : decode bb_M_put 13 = .ok (.iconst 0, 1) := by decide +kernel
theorem dd_M_put_14 : decode bb_M_put 14 = .ok (.bipush 63, 2) := by decide +kernel
theorem dd_M_put_16 : decode bb_M_put 16 = .ok (.invokestatic 98, 3) := by decide +kernel
theorem dd_M_put_19 : decode bb_M_put 19 = .ok (.ifCond .ne 13, 3) := by decide +kernel
theorem dd_M_put_22 : decode bb_M_put 22 = .ok (.iload_n 2, 1) := by decide +kernel
theorem dd_M_put_23 : decode bb_M_put 23 = .ok (.iconst 0, 1) := by decide +kernel
theorem dd_M_put_24 : decode bb_M_put 24 = .ok (.bipush 12, 2) := by decide +kernel
theorem dd_M_put_26 : decode bb_M_put 26 = .ok (.invokestatic 98, 3) := by decide +kernel
theorem dd_M_put_29 : decode bb_M_put 29 = .ok (.ifCond .eq 7, 3) := by decide +kernel
theorem dd_M_put_32 : decode bb_M_put 32 = .ok (.iconst 2, 1) := by decide +kernel
theorem dd_M_put_33 : decode bb_M_put 33 = .ok (.goto 4, 3) := by decide +kernel
theorem dd_M_put_36 : decode bb_M_put 36 = .ok (.iconst 0, 1) := by decide +kernel
theorem dd_M_put_37 : decode bb_M_put 37 = .ok (.invokevirtual 155, 3) := by decide +kernel
theorem dd_M_put_40 : decode bb_M_put 40 = .ok (.ifCond .eq 5, 3) := by decide +kernel
theorem dd_M_put_43 : decode bb_M_put 43 = .ok (.iconst 0, 1) := by decide +kernel
theorem dd_M_put_44 : decode bb_M_put 44 = .ok (.ireturn, 1) := by decide +kernel
theorem dd_M_put_45 : decode bb_M_put 45 = .ok (.aload_n 0, 1) := by decide +kernel
theorem dd_M_put_46 : decode bb_M_put 46 = .ok (.getfield 7, 3) := by decide +kernel
theorem dd_M_put_49 : decode bb_M_put 49 = .ok (.iload_n 1, 1) := by decide +kernel
theorem dd_M_put_50 : decode bb_M_put 50 = .ok (.iaload, 1) := by decide +kernel
theorem dd_M_put_51 : decode bb_M_put 51 = .ok (.istore_n 3, 1) := by decide +kernel
theorem dd_M_put_52 : decode bb_M_put 52 = .ok (.aload_n 0, 1) := by decide +kernel
theorem dd_M_put_53 : decode bb_M_put 53 = .ok (.getfield 7, 3) := by decide +kernel
theorem dd_M_put_56 : decode bb_M_put 56 = .ok (.iload_n 1, 1) := by decide +kernel
theorem dd_M_put_57 : decode bb_M_put 57 = .ok (.iload_n 2, 1) := by decide +kernel
theorem dd_M_put_58 : decode bb_M_put 58 = .ok (.iastore, 1) := by decide +kernel
theorem dd_M_put_59 : decode bb_M_put 59 = .ok (.iload_n 3, 1) := by decide +kernel
theorem dd_M_put_60 : decode bb_M_put 60 = .ok (.ireturn, 1) := by decide +kernel
abbrev ty_M_put : Type := Int32 × Int32 × (Nat → Int32)
noncomputable def bk_M_put_37 (mpl : Int32) (a1 : Int32) (a2 : Int32) (mth : Int32) (bd : Nat → Int32) (s1 : Int32) : Option ty_M_put := (fn_M_refused mth s1).bind fun (r1001, mth_1002) => if r1001 = 0 then (qq_ck (qq_in a1 64) <| qq_let (bd a1.toNatClampNeg) fun v1004 => qq_ck (qq_in a1 64) <| qq_let (upd bd a1.toNatClampNeg a2) fun bd_1006 => some (v1004, mth_1002, bd_1006)) else (some (0, mth_1002, bd))
noncomputable def bk_M_put_32 (mpl : Int32) (a1 : Int32) (a2 : Int32) (mth : Int32) (bd : Nat → Int32) : Option ty_M_put := bk_M_put_37 mpl a1 a2 mth bd 2
noncomputable def fn_M_put (mth : Int32) (mpl : Int32) (bd : Nat → Int32) (a1 : Int32) (a2 : Int32) : Option ty_M_put := if mpl = 0 then ((fn_M_outside a1 0 63).bind fun r1 => if r1 = 0 then ((fn_M_outside a2 0 12).bind fun r2 => if r2 = 0 then (bk_M_put_37 mpl a1 a2 mth bd 0) else (bk_M_put_32 mpl a1 a2 mth bd)) else (bk_M_put_32 mpl a1 a2 mth bd)) else (bk_M_put_37 mpl a1 a2 mth bd 1)
abbrev rm_M_put : Room := { frames := 1, cells := 0, slots := 0, locals := 22 }
set_option maxHeartbeats 4000000 in
set_option maxRecDepth 100000 in
theorem ct_M_put (l : Launch) (dC : Nat → ClassId) (dI : Nat → Nat → Nat) (cI cL cR : ClassId) (oM obd opa opS opR opG opP opQ okp okS okR okP okQ oli : Nat) (mth : Int32) (mpl : Int32) (msd : Int32) (mrt : Int32) (mps : Int32) (mqt : Int32) (mmd : Int32) (bd : Nat → Int32) (pa : Nat → Int32) (pS : Nat → Int32) (pR : Nat → Int32) (pG : Nat → Int32) (pP : Nat → Int32) (pQ : Nat → Int32) (kp : Nat → Int32) (kS : Nat → Int32) (kR : Nat → Int32) (kP : Nat → Int32) (kQ : Nat → Int32) (li : Nat → Int32) (a1 : Int32) (a2 : Int32) {rr : Int32} {mth' : Int32} {bd' : Nat → Int32} (hf : fn_M_put mth mpl bd a1 a2 = some (rr, mth', bd')) : qq_det l yy_M_put (ww_of yy_M_put bb_M_put 4 (some .int)) rm_M_put (dC, dI) (qq_ty cI cL cR) [.ref oM, .int a1, .int a2] [(oM, .inr (5, [.int mth, .int mpl, .ref obd, .int msd, .int mrt, .int mps, .int mqt, .int mmd, .ref opa, .ref opS, .ref opR, .ref opG, .ref opP, .ref opQ, .ref okp, .ref okS, .ref okR, .ref okP, .ref okQ, .ref oli])), (obd, .inl (cI, 64, .inl bd)), (opa, .inl (cI, 9664, .inl pa)), (opS, .inl (cI, 151, .inl pS)), (opR, .inl (cI, 151, .inl pR)), (opG, .inl (cI, 151, .inl pG)), (opP, .inl (cI, 151, .inl pP)), (opQ, .inl (cI, 151, .inl pQ)), (okp, .inl (cI, 256, .inl kp)), (okS, .inl (cI, 4, .inl kS)), (okR, .inl (cI, 4, .inl kR)), (okP, .inl (cI, 4, .inl kP)), (okQ, .inl (cI, 4, .inl kQ)), (oli, .inl (cI, 1320, .inl li))] (some (.int rr)) [(oM, .inr (5, [.int mth', .int mpl, .ref obd, .int msd, .int mrt, .int mps, .int mqt, .int mmd, .ref opa, .ref opS, .ref opR, .ref opG, .ref opP, .ref opQ, .ref okp, .ref okS, .ref okR, .ref okP, .ref okQ, .ref oli])), (obd, .inl (cI, 64, .inl bd')), (opa, .inl (cI, 9664, .inl pa)), (opS, .inl (cI, 151, .inl pS)), (opR, .inl (cI, 151, .inl pR)), (opG, .inl (cI, 151, .inl pG)), (opP, .inl (cI, 151, .inl pP)), (opQ, .inl (cI, 151, .inl pQ)), (okp, .inl (cI, 256, .inl kp)), (okS, .inl (cI, 4, .inl kS)), (okR, .inl (cI, 4, .inl kR)), (okP, .inl (cI, 4, .inl kP)), (okQ, .inl (cI, 4, .inl kQ)), (oli, .inl (cI, 1320, .inl li))] := by
  refine qq_of (own := RR_M) (by decide) rfl (Nat.le_of_ble_eq_true rfl) ?_
  intro p e s m below meth c A Q ls hx hb hml hr hlocks hown hts hK hA hT hN hP hD hS hl hQ
  have hl : lv_has ls 4 [(0, .ref oM), (1, .int a1), (2, .int a2)] := hl
  have hJ37 : ∀ (mth : Int32) (bd : Nat → Int32) (s1 : Int32) (H : Heap) (locs : List Loc) (ls : Array Slot), lv_has ls 4 [(0, .ref oM), (1, .int a1), (2, .int a2)] → va_P (dC, dI) classes [(oM, .inr (5, [.int mth, .int mpl, .ref obd, .int msd, .int mrt, .int mps, .int mqt, .int mmd, .ref opa, .ref opS, .ref opR, .ref opG, .ref opP, .ref opQ, .ref okp, .ref okS, .ref okR, .ref okP, .ref okQ, .ref oli])), (obd, .inl (cI, 64, .inl bd)), (opa, .inl (cI, 9664, .inl pa)), (opS, .inl (cI, 151, .inl pS)), (opR, .inl (cI, 151, .inl pR)), (opG, .inl (cI, 151, .inl pG)), (opP, .inl (cI, 151, .inl pP)), (opQ, .inl (cI, 151, .inl pQ)), (okp, .inl (cI, 256, .inl kp)), (okS, .inl (cI, 4, .inl kS)), (okR, .inl (cI, 4, .inl kR)), (okP, .inl (cI, 4, .inl kP)), (okQ, .inl (cI, 4, .inl kQ)), (oli, .inl (cI, 1320, .inl li))] H → va_D A [(oM, .inr (5, [.int mth, .int mpl, .ref obd, .int msd, .int mrt, .int mps, .int mqt, .int mmd, .ref opa, .ref opS, .ref opR, .ref opG, .ref opP, .ref opQ, .ref okp, .ref okS, .ref okR, .ref okP, .ref okQ, .ref oli])), (obd, .inl (cI, 64, .inl bd)), (opa, .inl (cI, 9664, .inl pa)), (opS, .inl (cI, 151, .inl pS)), (opR, .inl (cI, 151, .inl pR)), (opG, .inl (cI, 151, .inl pG)), (opP, .inl (cI, 151, .inl pP)), (opQ, .inl (cI, 151, .inl pQ)), (okp, .inl (cI, 256, .inl kp)), (okS, .inl (cI, 4, .inl kS)), (okR, .inl (cI, 4, .inl kR)), (okP, .inl (cI, 4, .inl kP)), (okQ, .inl (cI, 4, .inl kQ)), (oli, .inl (cI, 1320, .inl li))] → va_S A s.heap H locs → bk_M_put_37 mpl a1 a2 mth bd s1 = some (rr, mth', bd') → W p l e rm_M_put s m ([.ref oM, .int a1, .int a2] : List Value).toArray below meth c H locs 0 0 Q (F0 m 37 ls [.int s1, .ref oM]) := by
    intro mth bd s1 H locs ls hl hP hD hS hf
    rw [bk_M_put_37] at hf
    obtain ⟨⟨r1001, mth_1002⟩, hy1002, hf⟩ := qq_bd hf
    dsimp only at hf
    refine qq_V (As := [.int s1]) (rest := []) (wr := []) (wf := [(oM, .inr (5, [.int mth_1002, .int mpl, .ref obd, .int msd, .int mrt, .int mps, .int mqt, .int mmd, .ref opa, .ref opS, .ref opR, .ref opG, .ref opP, .ref opQ, .ref okp, .ref okS, .ref okR, .ref okP, .ref okQ, .ref oli])), (obd, .inl (cI, 64, .inl bd)), (opa, .inl (cI, 9664, .inl pa)), (opS, .inl (cI, 151, .inl pS)), (opR, .inl (cI, 151, .inl pR)), (opG, .inl (cI, 151, .inl pG)), (opP, .inl (cI, 151, .inl pP)), (opQ, .inl (cI, 151, .inl pQ)), (okp, .inl (cI, 256, .inl kp)), (okS, .inl (cI, 4, .inl kS)), (okR, .inl (cI, 4, .inl kR)), (okP, .inl (cI, 4, .inl kP)), (okQ, .inl (cI, 4, .inl kQ)), (oli, .inl (cI, 1320, .inl li))]) ⟨hx, hb, hml, hown, hts⟩ (ct_M_refused l dC dI cI cL cR oM obd opa opS opR opG opP opQ okp okS okR okP okQ oli mth mpl msd mrt mps mqt mmd bd pa pS pR pG pP pQ kp kS kR kP kQ li s1 hy1002) mm_327 mm_328 mm_329 mm_326 mm_211 hd_M_refused (by decide) qq_00 hP hD hK hS hA hT hN (q0 := 0) (ci := 5) rfl rfl [0, 1, 2, 3, 4, 5, 6, 7, 8, 9, 10, 11, 12, 13] [] [0, 1, 2, 3, 4, 5, 6, 7, 8, 9, 10, 11, 12, 13] rfl rfl rfl (by decide) rfl hl.1 rfl (Nat.le_of_ble_eq_true rfl) dd_M_put_37 (fun H locs hP hD hS => ?_)
    refine W.eq (g2 := F0 m 40 ls [.int r1001]) rfl ?_
    refine lv_if_eq (tgt := 45) hx hb dd_M_put_40 (by decide) (fun hc => ?_) (fun hc => ?_)
    · replace hf := qq_t hc hf
      refine lv_aload_n hx hb dd_M_put_45 rfl (lv_at hl 0 rfl) ?_
      refine va_get (D := (dC, dI)) (ci := 5) (v := .ref obd) (C := RR_M) (T := FF_M) (N := 20) hx hb hts uu_M hown hK hP 0 rfl rfl 2 (by decide) (hts _ mm_209) (fun _ h9 => h9) rfl dd_M_put_46 ?_
      refine lv_iload_n hx hb dd_M_put_49 rfl (lv_at hl 1 rfl) ?_
      obtain ⟨hi1003, hf⟩ := qq_ckE hf
      refine va_iald (D := (dC, dI)) (f := bd) (n := 64) (cA := cI) hx hb hK hP 1 0 rfl rfl (qq_inE hi1003) dd_M_put_50 ?_
      refine lv_topi (fun v1004 ev1004 => ?_)
      replace hf := qq_lt ev1004 hf
      refine lv_istore_n (lv' := [(3, .int v1004), (0, .ref oM), (1, .int a1), (2, .int a2)]) hx hb dd_M_put_51 rfl hl (by decide) rfl (fun ls hl => ?_)
      refine lv_aload_n hx hb dd_M_put_52 rfl (lv_at hl 1 rfl) ?_
      refine va_get (D := (dC, dI)) (ci := 5) (v := .ref obd) (C := RR_M) (T := FF_M) (N := 20) hx hb hts uu_M hown hK hP 0 rfl rfl 2 (by decide) (hts _ mm_209) (fun _ h9 => h9) rfl dd_M_put_53 ?_
      refine lv_iload_n hx hb dd_M_put_56 rfl (lv_at hl 2 rfl) ?_
      refine lv_iload_n hx hb dd_M_put_57 rfl (lv_at hl 3 rfl) ?_
      obtain ⟨hi1005, hf⟩ := qq_ckE hf
      refine va_iast (D := (dC, dI)) (f := bd) (n := 64) (cA := cI) hx hb hK hP hD hS 1 0 rfl rfl (qq_inE hi1005) dd_M_put_58 (fun H locs hP hD hS => ?_)
      obtain ⟨bd_1006, ebd_1006⟩ : ∃ z, z = upd bd a1.toNatClampNeg a2 := ⟨_, rfl⟩
      replace hf := qq_lt ebd_1006 hf
      have hP : va_P (dC, dI) classes [(oM, .inr (5, [.int mth_1002, .int mpl, .ref obd, .int msd, .int mrt, .int mps, .int mqt, .int mmd, .ref opa, .ref opS, .ref opR, .ref opG, .ref opP, .ref opQ, .ref okp, .ref okS, .ref okR, .ref okP, .ref okQ, .ref oli])), (obd, .inl (cI, 64, .inl bd_1006)), (opa, .inl (cI, 9664, .inl pa)), (opS, .inl (cI, 151, .inl pS)), (opR, .inl (cI, 151, .inl pR)), (opG, .inl (cI, 151, .inl pG)), (opP, .inl (cI, 151, .inl pP)), (opQ, .inl (cI, 151, .inl pQ)), (okp, .inl (cI, 256, .inl kp)), (okS, .inl (cI, 4, .inl kS)), (okR, .inl (cI, 4, .inl kR)), (okP, .inl (cI, 4, .inl kP)), (okQ, .inl (cI, 4, .inl kQ)), (oli, .inl (cI, 1320, .inl li))] H := by rw [ebd_1006]; exact hP
      have hD : va_D A [(oM, .inr (5, [.int mth_1002, .int mpl, .ref obd, .int msd, .int mrt, .int mps, .int mqt, .int mmd, .ref opa, .ref opS, .ref opR, .ref opG, .ref opP, .ref opQ, .ref okp, .ref okS, .ref okR, .ref okP, .ref okQ, .ref oli])), (obd, .inl (cI, 64, .inl bd_1006)), (opa, .inl (cI, 9664, .inl pa)), (opS, .inl (cI, 151, .inl pS)), (opR, .inl (cI, 151, .inl pR)), (opG, .inl (cI, 151, .inl pG)), (opP, .inl (cI, 151, .inl pP)), (opQ, .inl (cI, 151, .inl pQ)), (okp, .inl (cI, 256, .inl kp)), (okS, .inl (cI, 4, .inl kS)), (okR, .inl (cI, 4, .inl kR)), (okP, .inl (cI, 4, .inl kP)), (okQ, .inl (cI, 4, .inl kQ)), (oli, .inl (cI, 1320, .inl li))] := by rw [ebd_1006]; exact hD
      refine lv_iload_n hx hb dd_M_put_59 rfl (lv_at hl 0 rfl) ?_
      cases hf
      exact qq_iret hx hb hr hlocks hQ hP hD hK hS dd_M_put_60
    · replace hf := qq_f hc hf
      refine lv_iconst (v := 0) hx hb dd_M_put_43 (by decide) ?_
      cases hf
      exact qq_iret hx hb hr hlocks hQ hP hD hK hS dd_M_put_44
  have hJ32 : ∀ (mth : Int32) (bd : Nat → Int32) (H : Heap) (locs : List Loc) (ls : Array Slot), lv_has ls 4 [(0, .ref oM), (1, .int a1), (2, .int a2)] → va_P (dC, dI) classes [(oM, .inr (5, [.int mth, .int mpl, .ref obd, .int msd, .int mrt, .int mps, .int mqt, .int mmd, .ref opa, .ref opS, .ref opR, .ref opG, .ref opP, .ref opQ, .ref okp, .ref okS, .ref okR, .ref okP, .ref okQ, .ref oli])), (obd, .inl (cI, 64, .inl bd)), (opa, .inl (cI, 9664, .inl pa)), (opS, .inl (cI, 151, .inl pS)), (opR, .inl (cI, 151, .inl pR)), (opG, .inl (cI, 151, .inl pG)), (opP, .inl (cI, 151, .inl pP)), (opQ, .inl (cI, 151, .inl pQ)), (okp, .inl (cI, 256, .inl kp)), (okS, .inl (cI, 4, .inl kS)), (okR, .inl (cI, 4, .inl kR)), (okP, .inl (cI, 4, .inl kP)), (okQ, .inl (cI, 4, .inl kQ)), (oli, .inl (cI, 1320, .inl li))] H → va_D A [(oM, .inr (5, [.int mth, .int mpl, .ref obd, .int msd, .int mrt, .int mps, .int mqt, .int mmd, .ref opa, .ref opS, .ref opR, .ref opG, .ref opP, .ref opQ, .ref okp, .ref okS, .ref okR, .ref okP, .ref okQ, .ref oli])), (obd, .inl (cI, 64, .inl bd)), (opa, .inl (cI, 9664, .inl pa)), (opS, .inl (cI, 151, .inl pS)), (opR, .inl (cI, 151, .inl pR)), (opG, .inl (cI, 151, .inl pG)), (opP, .inl (cI, 151, .inl pP)), (opQ, .inl (cI, 151, .inl pQ)), (okp, .inl (cI, 256, .inl kp)), (okS, .inl (cI, 4, .inl kS)), (okR, .inl (cI, 4, .inl kR)), (okP, .inl (cI, 4, .inl kP)), (okQ, .inl (cI, 4, .inl kQ)), (oli, .inl (cI, 1320, .inl li))] → va_S A s.heap H locs → bk_M_put_32 mpl a1 a2 mth bd = some (rr, mth', bd') → W p l e rm_M_put s m ([.ref oM, .int a1, .int a2] : List Value).toArray below meth c H locs 0 0 Q (F0 m 32 ls [.ref oM]) := by
    intro mth bd H locs ls hl hP hD hS hf
    rw [bk_M_put_32] at hf
    refine lv_iconst (v := 2) hx hb dd_M_put_32 (by decide) ?_
    refine lv_goto (tgt := 37) hx hb dd_M_put_33 (by decide) ?_
    exact hJ37 mth bd 2 _ _ _ (lv_sub hl [0, 1, 2] rfl) hP hD hS hf
  rw [fn_M_put] at hf
  refine lv_aload_n hx hb dd_M_put_0 rfl (lv_at hl 0 rfl) ?_
  refine lv_aload_n hx hb dd_M_put_1 rfl (lv_at hl 0 rfl) ?_
  refine va_get (D := (dC, dI)) (ci := 5) (v := .int mpl) (C := RR_M) (T := FF_M) (N := 20) hx hb hts uu_M hown hK hP 0 rfl rfl 1 (by decide) (hts _ mm_330) (fun _ h9 => h9) rfl dd_M_put_2 ?_
  refine lv_if_eq (tgt := 12) hx hb dd_M_put_5 (by decide) (fun hc => ?_) (fun hc => ?_)
  · replace hf := qq_t hc hf
    refine lv_iload_n hx hb dd_M_put_12 rfl (lv_at hl 1 rfl) ?_
    refine lv_iconst (v := 0) hx hb dd_M_put_13 (by decide) ?_
    refine lv_bipush (v := 63) hx hb dd_M_put_14 (by decide) ?_
    obtain ⟨r1, hy1, hf⟩ := qq_bd hf
    refine qq_S (As := [.int a1, .int 0, .int 63]) (rest := [.ref oM]) (wr := [(oM, .inr (5, [.int mth, .int mpl, .ref obd, .int msd, .int mrt, .int mps, .int mqt, .int mmd, .ref opa, .ref opS, .ref opR, .ref opG, .ref opP, .ref opQ, .ref okp, .ref okS, .ref okR, .ref okP, .ref okQ, .ref oli])), (obd, .inl (cI, 64, .inl bd)), (opa, .inl (cI, 9664, .inl pa)), (opS, .inl (cI, 151, .inl pS)), (opR, .inl (cI, 151, .inl pR)), (opG, .inl (cI, 151, .inl pG)), (opP, .inl (cI, 151, .inl pP)), (opQ, .inl (cI, 151, .inl pQ)), (okp, .inl (cI, 256, .inl kp)), (okS, .inl (cI, 4, .inl kS)), (okR, .inl (cI, 4, .inl kR)), (okP, .inl (cI, 4, .inl kP)), (okQ, .inl (cI, 4, .inl kQ)), (oli, .inl (cI, 1320, .inl li))]) (wf := [(oM, .inr (5, [.int mth, .int mpl, .ref obd, .int msd, .int mrt, .int mps, .int mqt, .int mmd, .ref opa, .ref opS, .ref opR, .ref opG, .ref opP, .ref opQ, .ref okp, .ref okS, .ref okR, .ref okP, .ref okQ, .ref oli])), (obd, .inl (cI, 64, .inl bd)), (opa, .inl (cI, 9664, .inl pa)), (opS, .inl (cI, 151, .inl pS)), (opR, .inl (cI, 151, .inl pR)), (opG, .inl (cI, 151, .inl pG)), (opP, .inl (cI, 151, .inl pP)), (opQ, .inl (cI, 151, .inl pQ)), (okp, .inl (cI, 256, .inl kp)), (okS, .inl (cI, 4, .inl kS)), (okR, .inl (cI, 4, .inl kR)), (okP, .inl (cI, 4, .inl kP)), (okQ, .inl (cI, 4, .inl kQ)), (oli, .inl (cI, 1320, .inl li))]) ⟨hx, hb, hml, hown, hts⟩ (ct_M_outside l dC dI cI cL cR a1 0 63 hy1) mm_238 mm_239 mm_237 mm_211 hd_M_outside (by decide) qq_00 hP hD hK hS hA hT hN [] [0, 1, 2, 3, 4, 5, 6, 7, 8, 9, 10, 11, 12, 13] [0, 1, 2, 3, 4, 5, 6, 7, 8, 9, 10, 11, 12, 13] rfl rfl rfl (by decide) rfl hl.1 rfl (Nat.le_of_ble_eq_true rfl) dd_M_put_16 (fun H locs hP hD hS => ?_)
    refine W.eq (g2 := F0 m 19 ls [.int r1, .ref oM]) rfl ?_
    refine lv_if_ne (tgt := 32) hx hb dd_M_put_19 (by decide) (fun hc => ?_) (fun hc => ?_)
    · replace hf := qq_f hc hf
      exact hJ32 mth bd _ _ _ (lv_sub hl [0, 1, 2] rfl) hP hD hS hf
    · replace hf := qq_t hc hf
      refine lv_iload_n hx hb dd_M_put_22 rfl (lv_at hl 2 rfl) ?_
      refine lv_iconst (v := 0) hx hb dd_M_put_23 (by decide) ?_
      refine lv_bipush (v := 12) hx hb dd_M_put_24 (by decide) ?_
      obtain ⟨r2, hy2, hf⟩ := qq_bd hf
      refine qq_S (As := [.int a2, .int 0, .int 12]) (rest := [.ref oM]) (wr := [(oM, .inr (5, [.int mth, .int mpl, .ref obd, .int msd, .int mrt, .int mps, .int mqt, .int mmd, .ref opa, .ref opS, .ref opR, .ref opG, .ref opP, .ref opQ, .ref okp, .ref okS, .ref okR, .ref okP, .ref okQ, .ref oli])), (obd, .inl (cI, 64, .inl bd)), (opa, .inl (cI, 9664, .inl pa)), (opS, .inl (cI, 151, .inl pS)), (opR, .inl (cI, 151, .inl pR)), (opG, .inl (cI, 151, .inl pG)), (opP, .inl (cI, 151, .inl pP)), (opQ, .inl (cI, 151, .inl pQ)), (okp, .inl (cI, 256, .inl kp)), (okS, .inl (cI, 4, .inl kS)), (okR, .inl (cI, 4, .inl kR)), (okP, .inl (cI, 4, .inl kP)), (okQ, .inl (cI, 4, .inl kQ)), (oli, .inl (cI, 1320, .inl li))]) (wf := [(oM, .inr (5, [.int mth, .int mpl, .ref obd, .int msd, .int mrt, .int mps, .int mqt, .int mmd, .ref opa, .ref opS, .ref opR, .ref opG, .ref opP, .ref opQ, .ref okp, .ref okS, .ref okR, .ref okP, .ref okQ, .ref oli])), (obd, .inl (cI, 64, .inl bd)), (opa, .inl (cI, 9664, .inl pa)), (opS, .inl (cI, 151, .inl pS)), (opR, .inl (cI, 151, .inl pR)), (opG, .inl (cI, 151, .inl pG)), (opP, .inl (cI, 151, .inl pP)), (opQ, .inl (cI, 151, .inl pQ)), (okp, .inl (cI, 256, .inl kp)), (okS, .inl (cI, 4, .inl kS)), (okR, .inl (cI, 4, .inl kR)), (okP, .inl (cI, 4, .inl kP)), (okQ, .inl (cI, 4, .inl kQ)), (oli, .inl (cI, 1320, .inl li))]) ⟨hx, hb, hml, hown, hts⟩ (ct_M_outside l dC dI cI cL cR a2 0 12 hy2) mm_238 mm_239 mm_237 mm_211 hd_M_outside (by decide) qq_00 hP hD hK hS hA hT hN [] [0, 1, 2, 3, 4, 5, 6, 7, 8, 9, 10, 11, 12, 13] [0, 1, 2, 3, 4, 5, 6, 7, 8, 9, 10, 11, 12, 13] rfl rfl rfl (by decide) rfl hl.1 rfl (Nat.le_of_ble_eq_true rfl) dd_M_put_26 (fun H locs hP hD hS => ?_)
      refine W.eq (g2 := F0 m 29 ls [.int r2, .ref oM]) rfl ?_
      refine lv_if_eq (tgt := 36) hx hb dd_M_put_29 (by decide) (fun hc => ?_) (fun hc => ?_)
      · replace hf := qq_t hc hf
        refine lv_iconst (v := 0) hx hb dd_M_put_36 (by decide) ?_
        exact hJ37 mth bd 0 _ _ _ (lv_sub hl [0, 1, 2] rfl) hP hD hS hf
      · replace hf := qq_f hc hf
        exact hJ32 mth bd _ _ _ (lv_sub hl [0, 1, 2] rfl) hP hD hS hf
  · replace hf := qq_f hc hf
    refine lv_iconst (v := 1) hx hb dd_M_put_8 (by decide) ?_
    refine lv_goto (tgt := 37) hx hb dd_M_put_9 (by decide) ?_
    exact hJ37 mth bd 1 _ _ _ (lv_sub hl [0, 1, 2] rfl) hP hD hS hf
theorem dd_M_quiet_0 : decode bb_M_quiet 0 = .ok (.aload_n 0, 1) := by decide +kernel
theorem dd_M_quiet_1 : decode bb_M_quiet 1 = .ok (.aload_n 0, 1) := by decide +kernel
theorem dd_M_quiet_2 : decode bb_M_quiet 2 = .ok (.getfield 56, 3) := by decide +kernel
theorem dd_M_quiet_5 : decode bb_M_quiet 5 = .ok (.ifCond .eq 7, 3) := by decide +kernel
theorem dd_M_quiet_8 : decode bb_M_quiet 8 = .ok (.iconst 0, 1) := by decide +kernel
theorem dd_M_quiet_9 : decode bb_M_quiet 9 = .ok (.goto 4, 3) := by decide +kernel
theorem dd_M_quiet_12 : decode bb_M_quiet 12 = .ok (.iconst 1, 1) := by decide +kernel
theorem dd_M_quiet_13 : decode bb_M_quiet 13 = .ok (.invokevirtual 155, 3) := by decide +kernel
theorem dd_M_quiet_16 : decode bb_M_quiet 16 = .ok (.ifCond .eq 7, 3) := by decide +kernel
theorem dd_M_quiet_19 : decode bb_M_quiet 19 = .ok (.iconst 0, 1) := by decide +kernel
theorem dd_M_quiet_20 : decode bb_M_quiet 20 = .ok (.goto 7, 3) := by decide +kernel
theorem dd_M_quiet_23 : decode bb_M_quiet 23 = .ok (.aload_n 0, 1) := by decide +kernel
theorem dd_M_quiet_24 : decode bb_M_quiet 24 = .ok (.getfield 115, 3) := by decide +kernel
theorem dd_M_quiet_27 : decode bb_M_quiet 27 = .ok (.ireturn, 1) := by decide +kernel
abbrev ty_M_quiet : Type := Int32 × Int32
noncomputable def bk_M_quiet_27 (mpl : Int32) (mqt : Int32) (mth : Int32) (s0 : Int32) : Option ty_M_quiet := some (s0, mth)
noncomputable def bk_M_quiet_13 (mpl : Int32) (mqt : Int32) (mth : Int32) (s1 : Int32) : Option ty_M_quiet := (fn_M_refused mth s1).bind fun (r2001, mth_2002) => if r2001 = 0 then (bk_M_quiet_27 mpl mqt mth_2002 mqt) else (bk_M_quiet_27 mpl mqt mth_2002 0)
noncomputable def fn_M_quiet (mth : Int32) (mpl : Int32) (mqt : Int32) : Option ty_M_quiet := if mpl = 0 then (bk_M_quiet_13 mpl mqt mth 1) else (bk_M_quiet_13 mpl mqt mth 0)
abbrev rm_M_quiet : Room := { frames := 1, cells := 0, slots := 0, locals := 21 }
set_option maxHeartbeats 4000000 in
set_option maxRecDepth 100000 in
theorem ct_M_quiet (l : Launch) (dC : Nat → ClassId) (dI : Nat → Nat → Nat) (cI cL cR : ClassId) (oM obd opa opS opR opG opP opQ okp okS okR okP okQ oli : Nat) (mth : Int32) (mpl : Int32) (msd : Int32) (mrt : Int32) (mps : Int32) (mqt : Int32) (mmd : Int32) (bd : Nat → Int32) (pa : Nat → Int32) (pS : Nat → Int32) (pR : Nat → Int32) (pG : Nat → Int32) (pP : Nat → Int32) (pQ : Nat → Int32) (kp : Nat → Int32) (kS : Nat → Int32) (kR : Nat → Int32) (kP : Nat → Int32) (kQ : Nat → Int32) (li : Nat → Int32) {rr : Int32} {mth' : Int32} (hf : fn_M_quiet mth mpl mqt = some (rr, mth')) : qq_det l yy_M_quiet (ww_of yy_M_quiet bb_M_quiet 1 (some .int)) rm_M_quiet (dC, dI) (qq_ty cI cL cR) [.ref oM] [(oM, .inr (5, [.int mth, .int mpl, .ref obd, .int msd, .int mrt, .int mps, .int mqt, .int mmd, .ref opa, .ref opS, .ref opR, .ref opG, .ref opP, .ref opQ, .ref okp, .ref okS, .ref okR, .ref okP, .ref okQ, .ref oli])), (obd, .inl (cI, 64, .inl bd)), (opa, .inl (cI, 9664, .inl pa)), (opS, .inl (cI, 151, .inl pS)), (opR, .inl (cI, 151, .inl pR)), (opG, .inl (cI, 151, .inl pG)), (opP, .inl (cI, 151, .inl pP)), (opQ, .inl (cI, 151, .inl pQ)), (okp, .inl (cI, 256, .inl kp)), (okS, .inl (cI, 4, .inl kS)), (okR, .inl (cI, 4, .inl kR)), (okP, .inl (cI, 4, .inl kP)), (okQ, .inl (cI, 4, .inl kQ)), (oli, .inl (cI, 1320, .inl li))] (some (.int rr)) [(oM, .inr (5, [.int mth', .int mpl, .ref obd, .int msd, .int mrt, .int mps, .int mqt, .int mmd, .ref opa, .ref opS, .ref opR, .ref opG, .ref opP, .ref opQ, .ref okp, .ref okS, .ref okR, .ref okP, .ref okQ, .ref oli])), (obd, .inl (cI, 64, .inl bd)), (opa, .inl (cI, 9664, .inl pa)), (opS, .inl (cI, 151, .inl pS)), (opR, .inl (cI, 151, .inl pR)), (opG, .inl (cI, 151, .inl pG)), (opP, .inl (cI, 151, .inl pP)), (opQ, .inl (cI, 151, .inl pQ)), (okp, .inl (cI, 256, .inl kp)), (okS, .inl (cI, 4, .inl kS)), (okR, .inl (cI, 4, .inl kR)), (okP, .inl (cI, 4, .inl kP)), (okQ, .inl (cI, 4, .inl kQ)), (oli, .inl (cI, 1320, .inl li))] := by
  refine qq_of (own := RR_M) (by decide) rfl (Nat.le_of_ble_eq_true rfl) ?_
  intro p e s m below meth c A Q ls hx hb hml hr hlocks hown hts hK hA hT hN hP hD hS hl hQ
  have hl : lv_has ls 1 [(0, .ref oM)] := hl
  have hJ27 : ∀ (mth : Int32) (s0 : Int32) (H : Heap) (locs : List Loc) (ls : Array Slot), lv_has ls 1 [] → va_P (dC, dI) classes [(oM, .inr (5, [.int mth, .int mpl, .ref obd, .int msd, .int mrt, .int mps, .int mqt, .int mmd, .ref opa, .ref opS, .ref opR, .ref opG, .ref opP, .ref opQ, .ref okp, .ref okS, .ref okR, .ref okP, .ref okQ, .ref oli])), (obd, .inl (cI, 64, .inl bd)), (opa, .inl (cI, 9664, .inl pa)), (opS, .inl (cI, 151, .inl pS)), (opR, .inl (cI, 151, .inl pR)), (opG, .inl (cI, 151, .inl pG)), (opP, .inl (cI, 151, .inl pP)), (opQ, .inl (cI, 151, .inl pQ)), (okp, .inl (cI, 256, .inl kp)), (okS, .inl (cI, 4, .inl kS)), (okR, .inl (cI, 4, .inl kR)), (okP, .inl (cI, 4, .inl kP)), (okQ, .inl (cI, 4, .inl kQ)), (oli, .inl (cI, 1320, .inl li))] H → va_D A [(oM, .inr (5, [.int mth, .int mpl, .ref obd, .int msd, .int mrt, .int mps, .int mqt, .int mmd, .ref opa, .ref opS, .ref opR, .ref opG, .ref opP, .ref opQ, .ref okp, .ref okS, .ref okR, .ref okP, .ref okQ, .ref oli])), (obd, .inl (cI, 64, .inl bd)), (opa, .inl (cI, 9664, .inl pa)), (opS, .inl (cI, 151, .inl pS)), (opR, .inl (cI, 151, .inl pR)), (opG, .inl (cI, 151, .inl pG)), (opP, .inl (cI, 151, .inl pP)), (opQ, .inl (cI, 151, .inl pQ)), (okp, .inl (cI, 256, .inl kp)), (okS, .inl (cI, 4, .inl kS)), (okR, .inl (cI, 4, .inl kR)), (okP, .inl (cI, 4, .inl kP)), (okQ, .inl (cI, 4, .inl kQ)), (oli, .inl (cI, 1320, .inl li))] → va_S A s.heap H locs → bk_M_quiet_27 mpl mqt mth s0 = some (rr, mth') → W p l e rm_M_quiet s m ([.ref oM] : List Value).toArray below meth c H locs 0 0 Q (F0 m 27 ls [.int s0]) := by
    intro mth s0 H locs ls hl hP hD hS hf
    rw [bk_M_quiet_27] at hf
    cases hf
    exact qq_iret hx hb hr hlocks hQ hP hD hK hS dd_M_quiet_27
  have hJ13 : ∀ (mth : Int32) (s1 : Int32) (H : Heap) (locs : List Loc) (ls : Array Slot), lv_has ls 1 [(0, .ref oM)] → va_P (dC, dI) classes [(oM, .inr (5, [.int mth, .int mpl, .ref obd, .int msd, .int mrt, .int mps, .int mqt, .int mmd, .ref opa, .ref opS, .ref opR, .ref opG, .ref opP, .ref opQ, .ref okp, .ref okS, .ref okR, .ref okP, .ref okQ, .ref oli])), (obd, .inl (cI, 64, .inl bd)), (opa, .inl (cI, 9664, .inl pa)), (opS, .inl (cI, 151, .inl pS)), (opR, .inl (cI, 151, .inl pR)), (opG, .inl (cI, 151, .inl pG)), (opP, .inl (cI, 151, .inl pP)), (opQ, .inl (cI, 151, .inl pQ)), (okp, .inl (cI, 256, .inl kp)), (okS, .inl (cI, 4, .inl kS)), (okR, .inl (cI, 4, .inl kR)), (okP, .inl (cI, 4, .inl kP)), (okQ, .inl (cI, 4, .inl kQ)), (oli, .inl (cI, 1320, .inl li))] H → va_D A [(oM, .inr (5, [.int mth, .int mpl, .ref obd, .int msd, .int mrt, .int mps, .int mqt, .int mmd, .ref opa, .ref opS, .ref opR, .ref opG, .ref opP, .ref opQ, .ref okp, .ref okS, .ref okR, .ref okP, .ref okQ, .ref oli])), (obd, .inl (cI, 64, .inl bd)), (opa, .inl (cI, 9664, .inl pa)), (opS, .inl (cI, 151, .inl pS)), (opR, .inl (cI, 151, .inl pR)), (opG, .inl (cI, 151, .inl pG)), (opP, .inl (cI, 151, .inl pP)), (opQ, .inl (cI, 151, .inl pQ)), (okp, .inl (cI, 256, .inl kp)), (okS, .inl (cI, 4, .inl kS)), (okR, .inl (cI, 4, .inl kR)), (okP, .inl (cI, 4, .inl kP)), (okQ, .inl (cI, 4, .inl kQ)), (oli, .inl (cI, 1320, .inl li))] → va_S A s.heap H locs → bk_M_quiet_13 mpl mqt mth s1 = some (rr, mth') → W p l e rm_M_quiet s m ([.ref oM] : List Value).toArray below meth c H locs 0 0 Q (F0 m 13 ls [.int s1, .ref oM]) := by
    intro mth s1 H locs ls hl hP hD hS hf
    rw [bk_M_quiet_13] at hf
    obtain ⟨⟨r2001, mth_2002⟩, hy2002, hf⟩ := qq_bd hf
    dsimp only at hf
    refine qq_V (As := [.int s1]) (rest := []) (wr := []) (wf := [(oM, .inr (5, [.int mth_2002, .int mpl, .ref obd, .int msd, .int mrt, .int mps, .int mqt, .int mmd, .ref opa, .ref opS, .ref opR, .ref opG, .ref opP, .ref opQ, .ref okp, .ref okS, .ref okR, .ref okP, .ref okQ, .ref oli])), (obd, .inl (cI, 64, .inl bd)), (opa, .inl (cI, 9664, .inl pa)), (opS, .inl (cI, 151, .inl pS)), (opR, .inl (cI, 151, .inl pR)), (opG, .inl (cI, 151, .inl pG)), (opP, .inl (cI, 151, .inl pP)), (opQ, .inl (cI, 151, .inl pQ)), (okp, .inl (cI, 256, .inl kp)), (okS, .inl (cI, 4, .inl kS)), (okR, .inl (cI, 4, .inl kR)), (okP, .inl (cI, 4, .inl kP)), (okQ, .inl (cI, 4, .inl kQ)), (oli, .inl (cI, 1320, .inl li))]) ⟨hx, hb, hml, hown, hts⟩ (ct_M_refused l dC dI cI cL cR oM obd opa opS opR opG opP opQ okp okS okR okP okQ oli mth mpl msd mrt mps mqt mmd bd pa pS pR pG pP pQ kp kS kR kP kQ li s1 hy2002) mm_327 mm_328 mm_329 mm_326 mm_211 hd_M_refused (by decide) qq_00 hP hD hK hS hA hT hN (q0 := 0) (ci := 5) rfl rfl [0, 1, 2, 3, 4, 5, 6, 7, 8, 9, 10, 11, 12, 13] [] [0, 1, 2, 3, 4, 5, 6, 7, 8, 9, 10, 11, 12, 13] rfl rfl rfl (by decide) rfl hl.1 rfl (Nat.le_of_ble_eq_true rfl) dd_M_quiet_13 (fun H locs hP hD hS => ?_)
    refine W.eq (g2 := F0 m 16 ls [.int r2001]) rfl ?_
    refine lv_if_eq (tgt := 23) hx hb dd_M_quiet_16 (by decide) (fun hc => ?_) (fun hc => ?_)
    · replace hf := qq_t hc hf
      refine lv_aload_n hx hb dd_M_quiet_23 rfl (lv_at hl 0 rfl) ?_
      refine va_get (D := (dC, dI)) (ci := 5) (v := .int mqt) (C := RR_M) (T := FF_M) (N := 20) hx hb hts uu_M hown hK hP 0 rfl rfl 6 (by decide) (hts _ mm_268) (fun _ h9 => h9) rfl dd_M_quiet_24 ?_
      exact hJ27 mth_2002 mqt _ _ _ (lv_sub hl [] rfl) hP hD hS hf
    · replace hf := qq_f hc hf
      refine lv_iconst (v := 0) hx hb dd_M_quiet_19 (by decide) ?_
      refine lv_goto (tgt := 27) hx hb dd_M_quiet_20 (by decide) ?_
      exact hJ27 mth_2002 0 _ _ _ (lv_sub hl [] rfl) hP hD hS hf
  rw [fn_M_quiet] at hf
  refine lv_aload_n hx hb dd_M_quiet_0 rfl (lv_at hl 0 rfl) ?_
  refine lv_aload_n hx hb dd_M_quiet_1 rfl (lv_at hl 0 rfl) ?_
  refine va_get (D := (dC, dI)) (ci := 5) (v := .int mpl) (C := RR_M) (T := FF_M) (N := 20) hx hb hts uu_M hown hK hP 0 rfl rfl 1 (by decide) (hts _ mm_330) (fun _ h9 => h9) rfl dd_M_quiet_2 ?_
  refine lv_if_eq (tgt := 12) hx hb dd_M_quiet_5 (by decide) (fun hc => ?_) (fun hc => ?_)
  · replace hf := qq_t hc hf
    refine lv_iconst (v := 1) hx hb dd_M_quiet_12 (by decide) ?_
    exact hJ13 mth 1 _ _ _ (lv_sub hl [0] rfl) hP hD hS hf
  · replace hf := qq_f hc hf
    refine lv_iconst (v := 0) hx hb dd_M_quiet_8 (by decide) ?_
    refine lv_goto (tgt := 13) hx hb dd_M_quiet_9 (by decide) ?_
    exact hJ13 mth 0 _ _ _ (lv_sub hl [0] rfl) hP hD hS hf
theorem dd_M_rights_0 : decode bb_M_rights 0 = .ok (.aload_n 0, 1) := by decide +kernel
theorem dd_M_rights_1 : decode bb_M_rights 1 = .ok (.iconst 0, 1) := by decide +kernel
theorem dd_M_rights_2 : decode bb_M_rights 2 = .ok (.putfield 63, 3) := by decide +kernel
theorem dd_M_rights_5 : decode bb_M_rights 5 = .ok (.aload_n 0, 1) := by decide +kernel
theorem dd_M_rights_6 : decode bb_M_rights 6 = .ok (.getfield 53, 3) := by decide +kernel
theorem dd_M_rights_9 : decode bb_M_rights 9 = .ok (.ireturn, 1) := by decide +kernel
abbrev ty_M_rights : Type := Int32 × Int32
noncomputable def fn_M_rights (mth : Int32) (mrt : Int32) : Option ty_M_rights := some (mrt, 0)
abbrev rm_M_rights : Room := { frames := 0, cells := 0, slots := 0, locals := 0 }
set_option maxHeartbeats 4000000 in
set_option maxRecDepth 100000 in
theorem ct_M_rights (l : Launch) (dC : Nat → ClassId) (dI : Nat → Nat → Nat) (cI cL cR : ClassId) (oM obd opa opS opR opG opP opQ okp okS okR okP okQ oli : Nat) (mth : Int32) (mpl : Int32) (msd : Int32) (mrt : Int32) (mps : Int32) (mqt : Int32) (mmd : Int32) (bd : Nat → Int32) (pa : Nat → Int32) (pS : Nat → Int32) (pR : Nat → Int32) (pG : Nat → Int32) (pP : Nat → Int32) (pQ : Nat → Int32) (kp : Nat → Int32) (kS : Nat → Int32) (kR : Nat → Int32) (kP : Nat → Int32) (kQ : Nat → Int32) (li : Nat → Int32) {rr : Int32} {mth' : Int32} (hf : fn_M_rights mth mrt = some (rr, mth')) : qq_det l yy_M_rights (ww_of yy_M_rights bb_M_rights 1 (some .int)) rm_M_rights (dC, dI) (qq_ty cI cL cR) [.ref oM] [(oM, .inr (5, [.int mth, .int mpl, .ref obd, .int msd, .int mrt, .int mps, .int mqt, .int mmd, .ref opa, .ref opS, .ref opR, .ref opG, .ref opP, .ref opQ, .ref okp, .ref okS, .ref okR, .ref okP, .ref okQ, .ref oli])), (obd, .inl (cI, 64, .inl bd)), (opa, .inl (cI, 9664, .inl pa)), (opS, .inl (cI, 151, .inl pS)), (opR, .inl (cI, 151, .inl pR)), (opG, .inl (cI, 151, .inl pG)), (opP, .inl (cI, 151, .inl pP)), (opQ, .inl (cI, 151, .inl pQ)), (okp, .inl (cI, 256, .inl kp)), (okS, .inl (cI, 4, .inl kS)), (okR, .inl (cI, 4, .inl kR)), (okP, .inl (cI, 4, .inl kP)), (okQ, .inl (cI, 4, .inl kQ)), (oli, .inl (cI, 1320, .inl li))] (some (.int rr)) [(oM, .inr (5, [.int mth', .int mpl, .ref obd, .int msd, .int mrt, .int mps, .int mqt, .int mmd, .ref opa, .ref opS, .ref opR, .ref opG, .ref opP, .ref opQ, .ref okp, .ref okS, .ref okR, .ref okP, .ref okQ, .ref oli])), (obd, .inl (cI, 64, .inl bd)), (opa, .inl (cI, 9664, .inl pa)), (opS, .inl (cI, 151, .inl pS)), (opR, .inl (cI, 151, .inl pR)), (opG, .inl (cI, 151, .inl pG)), (opP, .inl (cI, 151, .inl pP)), (opQ, .inl (cI, 151, .inl pQ)), (okp, .inl (cI, 256, .inl kp)), (okS, .inl (cI, 4, .inl kS)), (okR, .inl (cI, 4, .inl kR)), (okP, .inl (cI, 4, .inl kP)), (okQ, .inl (cI, 4, .inl kQ)), (oli, .inl (cI, 1320, .inl li))] := by
  refine qq_of (own := RR_M) (by decide) rfl (Nat.le_of_ble_eq_true rfl) ?_
  intro p e s m below meth c A Q ls hx hb hml hr hlocks hown hts hK hA hT hN hP hD hS hl hQ
  have hl : lv_has ls 1 [(0, .ref oM)] := hl
  rw [fn_M_rights] at hf
  refine lv_aload_n hx hb dd_M_rights_0 rfl (lv_at hl 0 rfl) ?_
  refine lv_iconst (v := 0) hx hb dd_M_rights_1 (by decide) ?_
  refine va_put (D := (dC, dI)) (ci := 5) (v := .int 0) (ty := .int) (C := RR_M) (T := FF_M) (N := 20) hx hb hts uu_M tt_M tt_M_ok nn_M hown hK hP hD hS 0 rfl rfl 0 (by decide) (hts _ mm_310) (fun _ h9 => h9) rfl (by decide +kernel) rfl rfl (Nat.le_of_ble_eq_true rfl) dd_M_rights_2 (fun H locs hP hD hS => ?_)
  have hP : va_P (dC, dI) classes [(oM, .inr (5, [.int 0, .int mpl, .ref obd, .int msd, .int mrt, .int mps, .int mqt, .int mmd, .ref opa, .ref opS, .ref opR, .ref opG, .ref opP, .ref opQ, .ref okp, .ref okS, .ref okR, .ref okP, .ref okQ, .ref oli])), (obd, .inl (cI, 64, .inl bd)), (opa, .inl (cI, 9664, .inl pa)), (opS, .inl (cI, 151, .inl pS)), (opR, .inl (cI, 151, .inl pR)), (opG, .inl (cI, 151, .inl pG)), (opP, .inl (cI, 151, .inl pP)), (opQ, .inl (cI, 151, .inl pQ)), (okp, .inl (cI, 256, .inl kp)), (okS, .inl (cI, 4, .inl kS)), (okR, .inl (cI, 4, .inl kR)), (okP, .inl (cI, 4, .inl kP)), (okQ, .inl (cI, 4, .inl kQ)), (oli, .inl (cI, 1320, .inl li))] H := hP
  have hD : va_D A [(oM, .inr (5, [.int 0, .int mpl, .ref obd, .int msd, .int mrt, .int mps, .int mqt, .int mmd, .ref opa, .ref opS, .ref opR, .ref opG, .ref opP, .ref opQ, .ref okp, .ref okS, .ref okR, .ref okP, .ref okQ, .ref oli])), (obd, .inl (cI, 64, .inl bd)), (opa, .inl (cI, 9664, .inl pa)), (opS, .inl (cI, 151, .inl pS)), (opR, .inl (cI, 151, .inl pR)), (opG, .inl (cI, 151, .inl pG)), (opP, .inl (cI, 151, .inl pP)), (opQ, .inl (cI, 151, .inl pQ)), (okp, .inl (cI, 256, .inl kp)), (okS, .inl (cI, 4, .inl kS)), (okR, .inl (cI, 4, .inl kR)), (okP, .inl (cI, 4, .inl kP)), (okQ, .inl (cI, 4, .inl kQ)), (oli, .inl (cI, 1320, .inl li))] := hD
  refine lv_aload_n hx hb dd_M_rights_5 rfl (lv_at hl 0 rfl) ?_
  refine va_get (D := (dC, dI)) (ci := 5) (v := .int mrt) (C := RR_M) (T := FF_M) (N := 20) hx hb hts uu_M hown hK hP 0 rfl rfl 4 (by decide) (hts _ mm_255) (fun _ h9 => h9) rfl dd_M_rights_6 ?_
  cases hf
  exact qq_iret hx hb hr hlocks hQ hP hD hK hS dd_M_rights_9
theorem dd_M_same_0 : decode bb_M_same 0 = .ok (.aload_n 0, 1) := by decide +kernel
theorem dd_M_same_1 : decode bb_M_same 1 = .ok (.getfield 20, 3) := by decide +kernel
theorem dd_M_same_4 : decode bb_M_same 4 = .ok (.iload_n 1, 1) := by decide +kernel
theorem dd_M_same_5 : decode bb_M_same 5 = .ok (.iaload, 1) := by decide +kernel
theorem dd_M_same_6 : decode bb_M_same 6 = .ok (.aload_n 0, 1) := by decide +kernel
theorem dd_M_same_7 : decode bb_M_same 7 = .ok (.getfield 20, 3) := by decide +kernel
theorem dd_M_same_10 : decode bb_M_same 10 = .ok (.iload_n 2, 1) := by decide +kernel
theorem dd_M_same_11 : decode bb_M_same 11 = .ok (.iaload, 1) := by decide +kernel
theorem dd_M_same_12 : decode bb_M_same 12 = .ok (.if_icmp .ne 37, 3) := by decide +kernel
theorem dd_M_same_15 : decode bb_M_same 15 = .ok (.aload_n 0, 1) := by decide +kernel
theorem dd_M_same_16 : decode bb_M_same 16 = .ok (.getfield 23, 3) := by decide +kernel
theorem dd_M_same_19 : decode bb_M_same 19 = .ok (.iload_n 1, 1) := by decide +kernel
theorem dd_M_same_20 : decode bb_M_same 20 = .ok (.iaload, 1) := by decide +kernel
theorem dd_M_same_21 : decode bb_M_same 21 = .ok (.aload_n 0, 1) := by decide +kernel
theorem dd_M_same_22 : decode bb_M_same 22 = .ok (.getfield 23, 3) := by decide +kernel
theorem dd_M_same_25 : decode bb_M_same 25 = .ok (.iload_n 2, 1) := by decide +kernel
theorem dd_M_same_26 : decode bb_M_same 26 = .ok (.iaload, 1) := by decide +kernel
theorem dd_M_same_27 : decode bb_M_same 27 = .ok (.if_icmp .ne 22, 3) := by decide +kernel
theorem dd_M_same_30 : decode bb_M_same 30 = .ok (.aload_n 0, 1) := by decide +kernel
theorem dd_M_same_31 : decode bb_M_same 31 = .ok (.getfield 26, 3) := by decide +kernel
theorem dd_M_same_34 : decode bb_M_same 34 = .ok (.iload_n 1, 1) := by decide +kernel
theorem dd_M_same_35 : decode bb_M_same 35 = .ok (.iaload, 1) := by decide +kernel
theorem dd_M_same_36 : decode bb_M_same 36 = .ok (.aload_n 0, 1) := by decide +kernel
theorem dd_M_same_37 : decode bb_M_same 37 = .ok (.getfield 26, 3) := by decide +kernel
theorem dd_M_same_40 : decode bb_M_same 40 = .ok (.iload_n 2, 1) := by decide +kernel
theorem dd_M_same_41 : decode bb_M_same 41 = .ok (.iaload, 1) := by decide +kernel
theorem dd_M_same_42 : decode bb_M_same 42 = .ok (.if_icmp .ne 7, 3) := by decide +kernel
theorem dd_M_same_45 : decode bb_M_same 45 = .ok (.iconst 1, 1) := by decide +kernel
theorem dd_M_same_46 : decode bb_M_same 46 = .ok (.goto 4, 3) := by decide +kernel
theorem dd_M_same_49 : decode bb_M_same 49 = .ok (.iconst 0, 1) := by decide +kernel
theorem dd_M_same_50 : decode bb_M_same 50 = .ok (.istore_n 3, 1) := by decide +kernel
theorem dd_M_same_51 : decode bb_M_same 51 = .ok (.iconst 0, 1) := by decide +kernel
theorem dd_M_same_52 : decode bb_M_same 52 = .ok (.istore 4, 2) := by decide +kernel
theorem dd_M_same_54 : decode bb_M_same 54 = .ok (.iload 4, 2) := by decide +kernel
theorem dd_M_same_56 : decode bb_M_same 56 = .ok (.bipush 64, 2) := by decide +kernel
theorem dd_M_same_58 : decode bb_M_same 58 = .ok (.if_icmp .ge 46, 3) := by decide +kernel
theorem dd_M_same_61 : decode bb_M_same 61 = .ok (.iload_n 3, 1) := by decide +kernel
theorem dd_M_same_62 : decode bb_M_same 62 = .ok (.ifCond .eq 34, 3) := by decide +kernel
theorem dd_M_same_65 : decode bb_M_same 65 = .ok (.aload_n 0, 1) := by decide +kernel
theorem dd_M_same_66 : decode bb_M_same 66 = .ok (.getfield 17, 3) := by decide +kernel
theorem dd_M_same_69 : decode bb_M_same 69 = .ok (.bipush 64, 2) := by decide +kernel
theorem dd_M_same_71 : decode bb_M_same 71 = .ok (.iload_n 1, 1) := by decide +kernel
theorem dd_M_same_72 : decode bb_M_same 72 = .ok (.imul, 1) := by decide +kernel
theorem dd_M_same_73 : decode bb_M_same 73 = .ok (.iload 4, 2) := by decide +kernel
theorem dd_M_same_75 : decode bb_M_same 75 = .ok (.iadd, 1) := by decide +kernel
theorem dd_M_same_76 : decode bb_M_same 76 = .ok (.iaload, 1) := by decide +kernel
theorem dd_M_same_77 : decode bb_M_same 77 = .ok (.aload_n 0, 1) := by decide +kernel
theorem dd_M_same_78 : decode bb_M_same 78 = .ok (.getfield 17, 3) := by decide +kernel
theorem dd_M_same_81 : decode bb_M_same 81 = .ok (.bipush 64, 2) := by decide +kernel
theorem dd_M_same_83 : decode bb_M_same 83 = .ok (.iload_n 2, 1) := by decide +kernel
theorem dd_M_same_84 : decode bb_M_same 84 = .ok (.imul, 1) := by decide +kernel
theorem dd_M_same_85 : decode bb_M_same 85 = .ok (.iload 4, 2) := by decide +kernel
theorem dd_M_same_87 : decode bb_M_same 87 = .ok (.iadd, 1) := by decide +kernel
theorem dd_M_same_88 : decode bb_M_same 88 = .ok (.iaload, 1) := by decide +kernel
theorem dd_M_same_89 : decode bb_M_same 89 = .ok (.if_icmp .ne 7, 3) := by decide +kernel
theorem dd_M_same_92 : decode bb_M_same 92 = .ok (.iconst 1, 1) := by decide +kernel
theorem dd_M_same_93 : decode bb_M_same 93 = .ok (.goto 4, 3) := by decide +kernel
theorem dd_M_same_96 : decode bb_M_same 96 = .ok (.iconst 0, 1) := by decide +kernel
theorem dd_M_same_97 : decode bb_M_same 97 = .ok (.istore_n 3, 1) := by decide +kernel
theorem dd_M_same_98 : decode bb_M_same 98 = .ok (.iinc 4 1, 3) := by decide +kernel
theorem dd_M_same_101 : decode bb_M_same 101 = .ok (.goto (-47), 3) := by decide +kernel
theorem dd_M_same_104 : decode bb_M_same 104 = .ok (.iload_n 3, 1) := by decide +kernel
theorem dd_M_same_105 : decode bb_M_same 105 = .ok (.ireturn, 1) := by decide +kernel
abbrev ty_M_same : Type := Int32
noncomputable def bk_M_same_97 (pa : Nat → Int32) (pS : Nat → Int32) (pR : Nat → Int32) (pG : Nat → Int32) (a1 : Int32) (a2 : Int32) (k54 : Int32 → Int32 → Option ty_M_same) (x4 : Int32) (s0 : Int32) : Option ty_M_same := qq_let (x4 + 1) fun v1001 => k54 s0 v1001
noncomputable def bk_M_same_96 (pa : Nat → Int32) (pS : Nat → Int32) (pR : Nat → Int32) (pG : Nat → Int32) (a1 : Int32) (a2 : Int32) (k54 : Int32 → Int32 → Option ty_M_same) (x4 : Int32) : Option ty_M_same := bk_M_same_97 pa pS pR pG a1 a2 k54 x4 0
noncomputable def lo_M_same_54 (pa : Nat → Int32) (pS : Nat → Int32) (pR : Nat → Int32) (pG : Nat → Int32) (a1 : Int32) (a2 : Int32) : Nat → Int32 → Int32 → Option ty_M_same
  | 0, _, _ => none
  | n + 1, x3, x4 => if 64 ≤ x4 then (qq_ck (qq_b x3) <| some x3) else (if x3 = 0 then (bk_M_same_96 pa pS pR pG a1 a2 (lo_M_same_54 pa pS pR pG a1 a2 n) x4) else (qq_ck (qq_in ((64 * a1) + x4) 9664) <| qq_ck (qq_in ((64 * a2) + x4) 9664) <| if (pa ((64 * a1) + x4).toNatClampNeg) = (pa ((64 * a2) + x4).toNatClampNeg) then (bk_M_same_97 pa pS pR pG a1 a2 (lo_M_same_54 pa pS pR pG a1 a2 n) x4 1) else (bk_M_same_96 pa pS pR pG a1 a2 (lo_M_same_54 pa pS pR pG a1 a2 n) x4)))
theorem lo_M_same_54_z (pa : Nat → Int32) (pS : Nat → Int32) (pR : Nat → Int32) (pG : Nat → Int32) (a1 : Int32) (a2 : Int32) (x3 : Int32) (x4 : Int32) : lo_M_same_54 pa pS pR pG a1 a2 0 x3 x4 = none := rfl
theorem lo_M_same_54_s (pa : Nat → Int32) (pS : Nat → Int32) (pR : Nat → Int32) (pG : Nat → Int32) (a1 : Int32) (a2 : Int32) (x3 : Int32) (x4 : Int32) (n : Nat) : lo_M_same_54 pa pS pR pG a1 a2 (n + 1) x3 x4 = (if 64 ≤ x4 then (qq_ck (qq_b x3) <| some x3) else (if x3 = 0 then (bk_M_same_96 pa pS pR pG a1 a2 (lo_M_same_54 pa pS pR pG a1 a2 n) x4) else (qq_ck (qq_in ((64 * a1) + x4) 9664) <| qq_ck (qq_in ((64 * a2) + x4) 9664) <| if (pa ((64 * a1) + x4).toNatClampNeg) = (pa ((64 * a2) + x4).toNatClampNeg) then (bk_M_same_97 pa pS pR pG a1 a2 (lo_M_same_54 pa pS pR pG a1 a2 n) x4 1) else (bk_M_same_96 pa pS pR pG a1 a2 (lo_M_same_54 pa pS pR pG a1 a2 n) x4)))) := rfl
noncomputable def bk_M_same_50 (pa : Nat → Int32) (pS : Nat → Int32) (pR : Nat → Int32) (pG : Nat → Int32) (a1 : Int32) (a2 : Int32) (s0 : Int32) : Option ty_M_same := lo_M_same_54 pa pS pR pG a1 a2 qq_FU s0 0
noncomputable def bk_M_same_49 (pa : Nat → Int32) (pS : Nat → Int32) (pR : Nat → Int32) (pG : Nat → Int32) (a1 : Int32) (a2 : Int32) : Option ty_M_same := bk_M_same_50 pa pS pR pG a1 a2 0
noncomputable def fn_M_same (pa : Nat → Int32) (pS : Nat → Int32) (pR : Nat → Int32) (pG : Nat → Int32) (a1 : Int32) (a2 : Int32) : Option ty_M_same := qq_ck (qq_in a1 151) <| qq_ck (qq_in a2 151) <| if (pS a1.toNatClampNeg) = (pS a2.toNatClampNeg) then (qq_ck (qq_in a1 151) <| qq_ck (qq_in a2 151) <| if (pR a1.toNatClampNeg) = (pR a2.toNatClampNeg) then (qq_ck (qq_in a1 151) <| qq_ck (qq_in a2 151) <| if (pG a1.toNatClampNeg) = (pG a2.toNatClampNeg) then (bk_M_same_50 pa pS pR pG a1 a2 1) else (bk_M_same_49 pa pS pR pG a1 a2)) else (bk_M_same_49 pa pS pR pG a1 a2)) else (bk_M_same_49 pa pS pR pG a1 a2)
abbrev rm_M_same : Room := { frames := 0, cells := 0, slots := 0, locals := 0 }
set_option maxHeartbeats 4000000 in
set_option maxRecDepth 100000 in
theorem ct_M_same (l : Launch) (dC : Nat → ClassId) (dI : Nat → Nat → Nat) (cI cL cR : ClassId) (oM obd opa opS opR opG opP opQ okp okS okR okP okQ oli : Nat) (mth : Int32) (mpl : Int32) (msd : Int32) (mrt : Int32) (mps : Int32) (mqt : Int32) (mmd : Int32) (bd : Nat → Int32) (pa : Nat → Int32) (pS : Nat → Int32) (pR : Nat → Int32) (pG : Nat → Int32) (pP : Nat → Int32) (pQ : Nat → Int32) (kp : Nat → Int32) (kS : Nat → Int32) (kR : Nat → Int32) (kP : Nat → Int32) (kQ : Nat → Int32) (li : Nat → Int32) (a1 : Int32) (a2 : Int32) {rr : Int32} (hf : fn_M_same pa pS pR pG a1 a2 = some rr) : qq_det l yy_M_same (ww_of yy_M_same bb_M_same 5 (some .boolean)) rm_M_same (dC, dI) (qq_ty cI cL cR) [.ref oM, .int a1, .int a2] [(oM, .inr (5, [.int mth, .int mpl, .ref obd, .int msd, .int mrt, .int mps, .int mqt, .int mmd, .ref opa, .ref opS, .ref opR, .ref opG, .ref opP, .ref opQ, .ref okp, .ref okS, .ref okR, .ref okP, .ref okQ, .ref oli])), (obd, .inl (cI, 64, .inl bd)), (opa, .inl (cI, 9664, .inl pa)), (opS, .inl (cI, 151, .inl pS)), (opR, .inl (cI, 151, .inl pR)), (opG, .inl (cI, 151, .inl pG)), (opP, .inl (cI, 151, .inl pP)), (opQ, .inl (cI, 151, .inl pQ)), (okp, .inl (cI, 256, .inl kp)), (okS, .inl (cI, 4, .inl kS)), (okR, .inl (cI, 4, .inl kR)), (okP, .inl (cI, 4, .inl kP)), (okQ, .inl (cI, 4, .inl kQ)), (oli, .inl (cI, 1320, .inl li))] (some (.int rr)) [(oM, .inr (5, [.int mth, .int mpl, .ref obd, .int msd, .int mrt, .int mps, .int mqt, .int mmd, .ref opa, .ref opS, .ref opR, .ref opG, .ref opP, .ref opQ, .ref okp, .ref okS, .ref okR, .ref okP, .ref okQ, .ref oli])), (obd, .inl (cI, 64, .inl bd)), (opa, .inl (cI, 9664, .inl pa)), (opS, .inl (cI, 151, .inl pS)), (opR, .inl (cI, 151, .inl pR)), (opG, .inl (cI, 151, .inl pG)), (opP, .inl (cI, 151, .inl pP)), (opQ, .inl (cI, 151, .inl pQ)), (okp, .inl (cI, 256, .inl kp)), (okS, .inl (cI, 4, .inl kS)), (okR, .inl (cI, 4, .inl kR)), (okP, .inl (cI, 4, .inl kP)), (okQ, .inl (cI, 4, .inl kQ)), (oli, .inl (cI, 1320, .inl li))] := by
  refine qq_of (own := RR_M) (by decide) rfl (Nat.le_of_ble_eq_true rfl) ?_
  intro p e s m below meth c A Q ls hx hb hml hr hlocks hown hts hK hA hT hN hP hD hS hl hQ
  have hl : lv_has ls 5 [(0, .ref oM), (1, .int a1), (2, .int a2)] := hl
  have hL54 : ∀ (n54 : Nat) (x3 : Int32) (x4 : Int32) (H : Heap) (locs : List Loc) (ls : Array Slot), lv_has ls 5 [(0, .ref oM), (1, .int a1), (2, .int a2), (3, .int x3), (4, .int x4)] → va_P (dC, dI) classes [(oM, .inr (5, [.int mth, .int mpl, .ref obd, .int msd, .int mrt, .int mps, .int mqt, .int mmd, .ref opa, .ref opS, .ref opR, .ref opG, .ref opP, .ref opQ, .ref okp, .ref okS, .ref okR, .ref okP, .ref okQ, .ref oli])), (obd, .inl (cI, 64, .inl bd)), (opa, .inl (cI, 9664, .inl pa)), (opS, .inl (cI, 151, .inl pS)), (opR, .inl (cI, 151, .inl pR)), (opG, .inl (cI, 151, .inl pG)), (opP, .inl (cI, 151, .inl pP)), (opQ, .inl (cI, 151, .inl pQ)), (okp, .inl (cI, 256, .inl kp)), (okS, .inl (cI, 4, .inl kS)), (okR, .inl (cI, 4, .inl kR)), (okP, .inl (cI, 4, .inl kP)), (okQ, .inl (cI, 4, .inl kQ)), (oli, .inl (cI, 1320, .inl li))] H → va_D A [(oM, .inr (5, [.int mth, .int mpl, .ref obd, .int msd, .int mrt, .int mps, .int mqt, .int mmd, .ref opa, .ref opS, .ref opR, .ref opG, .ref opP, .ref opQ, .ref okp, .ref okS, .ref okR, .ref okP, .ref okQ, .ref oli])), (obd, .inl (cI, 64, .inl bd)), (opa, .inl (cI, 9664, .inl pa)), (opS, .inl (cI, 151, .inl pS)), (opR, .inl (cI, 151, .inl pR)), (opG, .inl (cI, 151, .inl pG)), (opP, .inl (cI, 151, .inl pP)), (opQ, .inl (cI, 151, .inl pQ)), (okp, .inl (cI, 256, .inl kp)), (okS, .inl (cI, 4, .inl kS)), (okR, .inl (cI, 4, .inl kR)), (okP, .inl (cI, 4, .inl kP)), (okQ, .inl (cI, 4, .inl kQ)), (oli, .inl (cI, 1320, .inl li))] → va_S A s.heap H locs → lo_M_same_54 pa pS pR pG a1 a2 n54 x3 x4 = some rr → W p l e rm_M_same s m ([.ref oM, .int a1, .int a2] : List Value).toArray below meth c H locs 0 0 Q (F0 m 54 ls []) := by
    intro n54
    induction n54 with
    | zero => exact fun x3 x4 H locs ls hl hP hD hS hf => absurd hf (by rw [lo_M_same_54_z]; exact fun h => by cases h)
    | succ n54 ih54 =>
      have hJ97 : ∀ (x4 : Int32) (s0 : Int32) (H : Heap) (locs : List Loc) (ls : Array Slot), lv_has ls 5 [(0, .ref oM), (1, .int a1), (2, .int a2), (4, .int x4)] → va_P (dC, dI) classes [(oM, .inr (5, [.int mth, .int mpl, .ref obd, .int msd, .int mrt, .int mps, .int mqt, .int mmd, .ref opa, .ref opS, .ref opR, .ref opG, .ref opP, .ref opQ, .ref okp, .ref okS, .ref okR, .ref okP, .ref okQ, .ref oli])), (obd, .inl (cI, 64, .inl bd)), (opa, .inl (cI, 9664, .inl pa)), (opS, .inl (cI, 151, .inl pS)), (opR, .inl (cI, 151, .inl pR)), (opG, .inl (cI, 151, .inl pG)), (opP, .inl (cI, 151, .inl pP)), (opQ, .inl (cI, 151, .inl pQ)), (okp, .inl (cI, 256, .inl kp)), (okS, .inl (cI, 4, .inl kS)), (okR, .inl (cI, 4, .inl kR)), (okP, .inl (cI, 4, .inl kP)), (okQ, .inl (cI, 4, .inl kQ)), (oli, .inl (cI, 1320, .inl li))] H → va_D A [(oM, .inr (5, [.int mth, .int mpl, .ref obd, .int msd, .int mrt, .int mps, .int mqt, .int mmd, .ref opa, .ref opS, .ref opR, .ref opG, .ref opP, .ref opQ, .ref okp, .ref okS, .ref okR, .ref okP, .ref okQ, .ref oli])), (obd, .inl (cI, 64, .inl bd)), (opa, .inl (cI, 9664, .inl pa)), (opS, .inl (cI, 151, .inl pS)), (opR, .inl (cI, 151, .inl pR)), (opG, .inl (cI, 151, .inl pG)), (opP, .inl (cI, 151, .inl pP)), (opQ, .inl (cI, 151, .inl pQ)), (okp, .inl (cI, 256, .inl kp)), (okS, .inl (cI, 4, .inl kS)), (okR, .inl (cI, 4, .inl kR)), (okP, .inl (cI, 4, .inl kP)), (okQ, .inl (cI, 4, .inl kQ)), (oli, .inl (cI, 1320, .inl li))] → va_S A s.heap H locs → bk_M_same_97 pa pS pR pG a1 a2 (lo_M_same_54 pa pS pR pG a1 a2 n54) x4 s0 = some rr → W p l e rm_M_same s m ([.ref oM, .int a1, .int a2] : List Value).toArray below meth c H locs 0 0 Q (F0 m 97 ls [.int s0]) := by
        intro x4 s0 H locs ls hl hP hD hS hf
        rw [bk_M_same_97] at hf
        refine lv_istore_n (lv' := [(3, .int s0), (0, .ref oM), (1, .int a1), (2, .int a2), (4, .int x4)]) hx hb dd_M_same_97 rfl hl (by decide) rfl (fun ls hl => ?_)
        obtain ⟨v1001, ev1001⟩ : ∃ z, z = x4 + 1 := ⟨_, rfl⟩
        replace hf := qq_lt ev1001 hf
        refine lv_iinc (k := 4) (v := v1001) (lv' := [(4, .int v1001), (3, .int s0), (0, .ref oM), (1, .int a1), (2, .int a2)]) hx hb dd_M_same_98 hl rfl (by rw [ev1001]; exact congrArg _ (by decide)) (by decide) rfl (fun ls hl => ?_)
        refine lv_goto (tgt := 54) hx hb dd_M_same_101 (by decide) ?_
        exact ih54 s0 v1001 _ _ _ (lv_sub hl [2, 3, 4, 1, 0] rfl) hP hD hS hf
      have hJ96 : ∀ (x4 : Int32) (H : Heap) (locs : List Loc) (ls : Array Slot), lv_has ls 5 [(0, .ref oM), (1, .int a1), (2, .int a2), (4, .int x4)] → va_P (dC, dI) classes [(oM, .inr (5, [.int mth, .int mpl, .ref obd, .int msd, .int mrt, .int mps, .int mqt, .int mmd, .ref opa, .ref opS, .ref opR, .ref opG, .ref opP, .ref opQ, .ref okp, .ref okS, .ref okR, .ref okP, .ref okQ, .ref oli])), (obd, .inl (cI, 64, .inl bd)), (opa, .inl (cI, 9664, .inl pa)), (opS, .inl (cI, 151, .inl pS)), (opR, .inl (cI, 151, .inl pR)), (opG, .inl (cI, 151, .inl pG)), (opP, .inl (cI, 151, .inl pP)), (opQ, .inl (cI, 151, .inl pQ)), (okp, .inl (cI, 256, .inl kp)), (okS, .inl (cI, 4, .inl kS)), (okR, .inl (cI, 4, .inl kR)), (okP, .inl (cI, 4, .inl kP)), (okQ, .inl (cI, 4, .inl kQ)), (oli, .inl (cI, 1320, .inl li))] H → va_D A [(oM, .inr (5, [.int mth, .int mpl, .ref obd, .int msd, .int mrt, .int mps, .int mqt, .int mmd, .ref opa, .ref opS, .ref opR, .ref opG, .ref opP, .ref opQ, .ref okp, .ref okS, .ref okR, .ref okP, .ref okQ, .ref oli])), (obd, .inl (cI, 64, .inl bd)), (opa, .inl (cI, 9664, .inl pa)), (opS, .inl (cI, 151, .inl pS)), (opR, .inl (cI, 151, .inl pR)), (opG, .inl (cI, 151, .inl pG)), (opP, .inl (cI, 151, .inl pP)), (opQ, .inl (cI, 151, .inl pQ)), (okp, .inl (cI, 256, .inl kp)), (okS, .inl (cI, 4, .inl kS)), (okR, .inl (cI, 4, .inl kR)), (okP, .inl (cI, 4, .inl kP)), (okQ, .inl (cI, 4, .inl kQ)), (oli, .inl (cI, 1320, .inl li))] → va_S A s.heap H locs → bk_M_same_96 pa pS pR pG a1 a2 (lo_M_same_54 pa pS pR pG a1 a2 n54) x4 = some rr → W p l e rm_M_same s m ([.ref oM, .int a1, .int a2] : List Value).toArray below meth c H locs 0 0 Q (F0 m 96 ls []) := by
        intro x4 H locs ls hl hP hD hS hf
        rw [bk_M_same_96] at hf
        refine lv_iconst (v := 0) hx hb dd_M_same_96 (by decide) ?_
        exact hJ97 x4 0 _ _ _ (lv_sub hl [0, 1, 2, 3] rfl) hP hD hS hf
      intro x3 x4 H locs ls hl hP hD hS hf
      rw [lo_M_same_54_s] at hf
      refine lv_iload hx hb dd_M_same_54 (lv_at hl 4 rfl) ?_
      refine lv_bipush (v := 64) hx hb dd_M_same_56 (by decide) ?_
      refine lv_icmp_ge (tgt := 104) hx hb dd_M_same_58 (by decide) (fun hc => ?_) (fun hc => ?_)
      · replace hf := qq_t hc hf
        refine lv_iload_n hx hb dd_M_same_104 rfl (lv_at hl 3 rfl) ?_
        obtain ⟨hzb, hf⟩ := qq_ckE hf
        cases hf
        exact qq_zret hx hb hr (qq_bE hzb) hlocks hQ hP hD hK hS dd_M_same_105
      · replace hf := qq_f hc hf
        refine lv_iload_n hx hb dd_M_same_61 rfl (lv_at hl 3 rfl) ?_
        refine lv_if_eq (tgt := 96) hx hb dd_M_same_62 (by decide) (fun hc => ?_) (fun hc => ?_)
        · replace hf := qq_t hc hf
          exact hJ96 x4 _ _ _ (lv_sub hl [0, 1, 2, 4] rfl) hP hD hS hf
        · replace hf := qq_f hc hf
          refine lv_aload_n hx hb dd_M_same_65 rfl (lv_at hl 0 rfl) ?_
          refine va_get (D := (dC, dI)) (ci := 5) (v := .ref opa) (C := RR_M) (T := FF_M) (N := 20) hx hb hts uu_M hown hK hP 0 rfl rfl 8 (by decide) (hts _ mm_325) (fun _ h9 => h9) rfl dd_M_same_66 ?_
          refine lv_bipush (v := 64) hx hb dd_M_same_69 (by decide) ?_
          refine lv_iload_n hx hb dd_M_same_71 rfl (lv_at hl 1 rfl) ?_
          refine lv_imul hx hb dd_M_same_72 ?_
          refine lv_iload hx hb dd_M_same_73 (lv_at hl 4 rfl) ?_
          refine lv_iadd hx hb dd_M_same_75 ?_
          obtain ⟨hi3001, hf⟩ := qq_ckE hf
          refine va_iald (D := (dC, dI)) (f := pa) (n := 9664) (cA := cI) hx hb hK hP 2 0 rfl rfl (qq_inE hi3001) dd_M_same_76 ?_
          refine lv_aload_n hx hb dd_M_same_77 rfl (lv_at hl 0 rfl) ?_
          refine va_get (D := (dC, dI)) (ci := 5) (v := .ref opa) (C := RR_M) (T := FF_M) (N := 20) hx hb hts uu_M hown hK hP 0 rfl rfl 8 (by decide) (hts _ mm_325) (fun _ h9 => h9) rfl dd_M_same_78 ?_
          refine lv_bipush (v := 64) hx hb dd_M_same_81 (by decide) ?_
          refine lv_iload_n hx hb dd_M_same_83 rfl (lv_at hl 2 rfl) ?_
          refine lv_imul hx hb dd_M_same_84 ?_
          refine lv_iload hx hb dd_M_same_85 (lv_at hl 4 rfl) ?_
          refine lv_iadd hx hb dd_M_same_87 ?_
          obtain ⟨hi3002, hf⟩ := qq_ckE hf
          refine va_iald (D := (dC, dI)) (f := pa) (n := 9664) (cA := cI) hx hb hK hP 2 0 rfl rfl (qq_inE hi3002) dd_M_same_88 ?_
          refine lv_icmp_ne (tgt := 96) hx hb dd_M_same_89 (by decide) (fun hc => ?_) (fun hc => ?_)
          · replace hf := qq_f hc hf
            exact hJ96 x4 _ _ _ (lv_sub hl [0, 1, 2, 4] rfl) hP hD hS hf
          · replace hf := qq_t hc hf
            refine lv_iconst (v := 1) hx hb dd_M_same_92 (by decide) ?_
            refine lv_goto (tgt := 97) hx hb dd_M_same_93 (by decide) ?_
            exact hJ97 x4 1 _ _ _ (lv_sub hl [0, 1, 2, 4] rfl) hP hD hS hf
  have hJ50 : ∀ (s0 : Int32) (H : Heap) (locs : List Loc) (ls : Array Slot), lv_has ls 5 [(0, .ref oM), (1, .int a1), (2, .int a2)] → va_P (dC, dI) classes [(oM, .inr (5, [.int mth, .int mpl, .ref obd, .int msd, .int mrt, .int mps, .int mqt, .int mmd, .ref opa, .ref opS, .ref opR, .ref opG, .ref opP, .ref opQ, .ref okp, .ref okS, .ref okR, .ref okP, .ref okQ, .ref oli])), (obd, .inl (cI, 64, .inl bd)), (opa, .inl (cI, 9664, .inl pa)), (opS, .inl (cI, 151, .inl pS)), (opR, .inl (cI, 151, .inl pR)), (opG, .inl (cI, 151, .inl pG)), (opP, .inl (cI, 151, .inl pP)), (opQ, .inl (cI, 151, .inl pQ)), (okp, .inl (cI, 256, .inl kp)), (okS, .inl (cI, 4, .inl kS)), (okR, .inl (cI, 4, .inl kR)), (okP, .inl (cI, 4, .inl kP)), (okQ, .inl (cI, 4, .inl kQ)), (oli, .inl (cI, 1320, .inl li))] H → va_D A [(oM, .inr (5, [.int mth, .int mpl, .ref obd, .int msd, .int mrt, .int mps, .int mqt, .int mmd, .ref opa, .ref opS, .ref opR, .ref opG, .ref opP, .ref opQ, .ref okp, .ref okS, .ref okR, .ref okP, .ref okQ, .ref oli])), (obd, .inl (cI, 64, .inl bd)), (opa, .inl (cI, 9664, .inl pa)), (opS, .inl (cI, 151, .inl pS)), (opR, .inl (cI, 151, .inl pR)), (opG, .inl (cI, 151, .inl pG)), (opP, .inl (cI, 151, .inl pP)), (opQ, .inl (cI, 151, .inl pQ)), (okp, .inl (cI, 256, .inl kp)), (okS, .inl (cI, 4, .inl kS)), (okR, .inl (cI, 4, .inl kR)), (okP, .inl (cI, 4, .inl kP)), (okQ, .inl (cI, 4, .inl kQ)), (oli, .inl (cI, 1320, .inl li))] → va_S A s.heap H locs → bk_M_same_50 pa pS pR pG a1 a2 s0 = some rr → W p l e rm_M_same s m ([.ref oM, .int a1, .int a2] : List Value).toArray below meth c H locs 0 0 Q (F0 m 50 ls [.int s0]) := by
    intro s0 H locs ls hl hP hD hS hf
    rw [bk_M_same_50] at hf
    refine lv_istore_n (lv' := [(3, .int s0), (0, .ref oM), (1, .int a1), (2, .int a2)]) hx hb dd_M_same_50 rfl hl (by decide) rfl (fun ls hl => ?_)
    refine lv_iconst (v := 0) hx hb dd_M_same_51 (by decide) ?_
    refine lv_istore (lv' := [(4, .int 0), (3, .int s0), (0, .ref oM), (1, .int a1), (2, .int a2)]) hx hb dd_M_same_52 hl (by decide) rfl (fun ls hl => ?_)
    exact hL54 qq_FU s0 0 _ _ _ (lv_sub hl [2, 3, 4, 1, 0] rfl) hP hD hS hf
  have hJ49 : ∀  (H : Heap) (locs : List Loc) (ls : Array Slot), lv_has ls 5 [(0, .ref oM), (1, .int a1), (2, .int a2)] → va_P (dC, dI) classes [(oM, .inr (5, [.int mth, .int mpl, .ref obd, .int msd, .int mrt, .int mps, .int mqt, .int mmd, .ref opa, .ref opS, .ref opR, .ref opG, .ref opP, .ref opQ, .ref okp, .ref okS, .ref okR, .ref okP, .ref okQ, .ref oli])), (obd, .inl (cI, 64, .inl bd)), (opa, .inl (cI, 9664, .inl pa)), (opS, .inl (cI, 151, .inl pS)), (opR, .inl (cI, 151, .inl pR)), (opG, .inl (cI, 151, .inl pG)), (opP, .inl (cI, 151, .inl pP)), (opQ, .inl (cI, 151, .inl pQ)), (okp, .inl (cI, 256, .inl kp)), (okS, .inl (cI, 4, .inl kS)), (okR, .inl (cI, 4, .inl kR)), (okP, .inl (cI, 4, .inl kP)), (okQ, .inl (cI, 4, .inl kQ)), (oli, .inl (cI, 1320, .inl li))] H → va_D A [(oM, .inr (5, [.int mth, .int mpl, .ref obd, .int msd, .int mrt, .int mps, .int mqt, .int mmd, .ref opa, .ref opS, .ref opR, .ref opG, .ref opP, .ref opQ, .ref okp, .ref okS, .ref okR, .ref okP, .ref okQ, .ref oli])), (obd, .inl (cI, 64, .inl bd)), (opa, .inl (cI, 9664, .inl pa)), (opS, .inl (cI, 151, .inl pS)), (opR, .inl (cI, 151, .inl pR)), (opG, .inl (cI, 151, .inl pG)), (opP, .inl (cI, 151, .inl pP)), (opQ, .inl (cI, 151, .inl pQ)), (okp, .inl (cI, 256, .inl kp)), (okS, .inl (cI, 4, .inl kS)), (okR, .inl (cI, 4, .inl kR)), (okP, .inl (cI, 4, .inl kP)), (okQ, .inl (cI, 4, .inl kQ)), (oli, .inl (cI, 1320, .inl li))] → va_S A s.heap H locs → bk_M_same_49 pa pS pR pG a1 a2 = some rr → W p l e rm_M_same s m ([.ref oM, .int a1, .int a2] : List Value).toArray below meth c H locs 0 0 Q (F0 m 49 ls []) := by
    intro  H locs ls hl hP hD hS hf
    rw [bk_M_same_49] at hf
    refine lv_iconst (v := 0) hx hb dd_M_same_49 (by decide) ?_
    exact hJ50 0 _ _ _ (lv_sub hl [0, 1, 2] rfl) hP hD hS hf
  rw [fn_M_same] at hf
  refine lv_aload_n hx hb dd_M_same_0 rfl (lv_at hl 0 rfl) ?_
  refine va_get (D := (dC, dI)) (ci := 5) (v := .ref opS) (C := RR_M) (T := FF_M) (N := 20) hx hb hts uu_M hown hK hP 0 rfl rfl 9 (by decide) (hts _ mm_315) (fun _ h9 => h9) rfl dd_M_same_1 ?_
  refine lv_iload_n hx hb dd_M_same_4 rfl (lv_at hl 1 rfl) ?_
  obtain ⟨hi1, hf⟩ := qq_ckE hf
  refine va_iald (D := (dC, dI)) (f := pS) (n := 151) (cA := cI) hx hb hK hP 3 0 rfl rfl (qq_inE hi1) dd_M_same_5 ?_
  refine lv_aload_n hx hb dd_M_same_6 rfl (lv_at hl 0 rfl) ?_
  refine va_get (D := (dC, dI)) (ci := 5) (v := .ref opS) (C := RR_M) (T := FF_M) (N := 20) hx hb hts uu_M hown hK hP 0 rfl rfl 9 (by decide) (hts _ mm_315) (fun _ h9 => h9) rfl dd_M_same_7 ?_
  refine lv_iload_n hx hb dd_M_same_10 rfl (lv_at hl 2 rfl) ?_
  obtain ⟨hi2, hf⟩ := qq_ckE hf
  refine va_iald (D := (dC, dI)) (f := pS) (n := 151) (cA := cI) hx hb hK hP 3 0 rfl rfl (qq_inE hi2) dd_M_same_11 ?_
  refine lv_icmp_ne (tgt := 49) hx hb dd_M_same_12 (by decide) (fun hc => ?_) (fun hc => ?_)
  · replace hf := qq_f hc hf
    exact hJ49  _ _ _ (lv_sub hl [0, 1, 2] rfl) hP hD hS hf
  · replace hf := qq_t hc hf
    refine lv_aload_n hx hb dd_M_same_15 rfl (lv_at hl 0 rfl) ?_
    refine va_get (D := (dC, dI)) (ci := 5) (v := .ref opR) (C := RR_M) (T := FF_M) (N := 20) hx hb hts uu_M hown hK hP 0 rfl rfl 10 (by decide) (hts _ mm_317) (fun _ h9 => h9) rfl dd_M_same_16 ?_
    refine lv_iload_n hx hb dd_M_same_19 rfl (lv_at hl 1 rfl) ?_
    obtain ⟨hi3, hf⟩ := qq_ckE hf
    refine va_iald (D := (dC, dI)) (f := pR) (n := 151) (cA := cI) hx hb hK hP 4 0 rfl rfl (qq_inE hi3) dd_M_same_20 ?_
    refine lv_aload_n hx hb dd_M_same_21 rfl (lv_at hl 0 rfl) ?_
    refine va_get (D := (dC, dI)) (ci := 5) (v := .ref opR) (C := RR_M) (T := FF_M) (N := 20) hx hb hts uu_M hown hK hP 0 rfl rfl 10 (by decide) (hts _ mm_317) (fun _ h9 => h9) rfl dd_M_same_22 ?_
    refine lv_iload_n hx hb dd_M_same_25 rfl (lv_at hl 2 rfl) ?_
    obtain ⟨hi4, hf⟩ := qq_ckE hf
    refine va_iald (D := (dC, dI)) (f := pR) (n := 151) (cA := cI) hx hb hK hP 4 0 rfl rfl (qq_inE hi4) dd_M_same_26 ?_
    refine lv_icmp_ne (tgt := 49) hx hb dd_M_same_27 (by decide) (fun hc => ?_) (fun hc => ?_)
    · replace hf := qq_f hc hf
      exact hJ49  _ _ _ (lv_sub hl [0, 1, 2] rfl) hP hD hS hf
    · replace hf := qq_t hc hf
      refine lv_aload_n hx hb dd_M_same_30 rfl (lv_at hl 0 rfl) ?_
      refine va_get (D := (dC, dI)) (ci := 5) (v := .ref opG) (C := RR_M) (T := FF_M) (N := 20) hx hb hts uu_M hown hK hP 0 rfl rfl 11 (by decide) (hts _ mm_318) (fun _ h9 => h9) rfl dd_M_same_31 ?_
      refine lv_iload_n hx hb dd_M_same_34 rfl (lv_at hl 1 rfl) ?_
      obtain ⟨hi5, hf⟩ := qq_ckE hf
      refine va_iald (D := (dC, dI)) (f := pG) (n := 151) (cA := cI) hx hb hK hP 5 0 rfl rfl (qq_inE hi5) dd_M_same_35 ?_
      refine lv_aload_n hx hb dd_M_same_36 rfl (lv_at hl 0 rfl) ?_
      refine va_get (D := (dC, dI)) (ci := 5) (v := .ref opG) (C := RR_M) (T := FF_M) (N := 20) hx hb hts uu_M hown hK hP 0 rfl rfl 11 (by decide) (hts _ mm_318) (fun _ h9 => h9) rfl dd_M_same_37 ?_
      refine lv_iload_n hx hb dd_M_same_40 rfl (lv_at hl 2 rfl) ?_
      obtain ⟨hi6, hf⟩ := qq_ckE hf
      refine va_iald (D := (dC, dI)) (f := pG) (n := 151) (cA := cI) hx hb hK hP 5 0 rfl rfl (qq_inE hi6) dd_M_same_41 ?_
      refine lv_icmp_ne (tgt := 49) hx hb dd_M_same_42 (by decide) (fun hc => ?_) (fun hc => ?_)
      · replace hf := qq_f hc hf
        exact hJ49  _ _ _ (lv_sub hl [0, 1, 2] rfl) hP hD hS hf
      · replace hf := qq_t hc hf
        refine lv_iconst (v := 1) hx hb dd_M_same_45 (by decide) ?_
        refine lv_goto (tgt := 50) hx hb dd_M_same_46 (by decide) ?_
        exact hJ50 1 _ _ _ (lv_sub hl [0, 1, 2] rfl) hP hD hS hf
theorem dd_M_seen_0 : decode bb_M_seen 0 = .ok (.aload_n 0, 1) := by decide +kernel
theorem dd_M_seen_1 : decode bb_M_seen 1 = .ok (.aload_n 0, 1) := by decide +kernel
theorem dd_M_seen_2 : decode bb_M_seen 2 = .ok (.getfield 56, 3) := by decide +kernel
theorem dd_M_seen_5 : decode bb_M_seen 5 = .ok (.ifCond .eq 7, 3) := by decide +kernel
theorem dd_M_seen_8 : decode bb_M_seen 8 = .ok (.iconst 0, 1) := by decide +kernel
theorem dd_M_seen_9 : decode bb_M_seen 9 = .ok (.goto 4, 3) := by decide +kernel
theorem dd_M_seen_12 : decode bb_M_seen 12 = .ok (.iconst 1, 1) := by decide +kernel
theorem dd_M_seen_13 : decode bb_M_seen 13 = .ok (.invokevirtual 155, 3) := by decide +kernel
theorem dd_M_seen_16 : decode bb_M_seen 16 = .ok (.ifCond .eq 5, 3) := by decide +kernel
theorem dd_M_seen_19 : decode bb_M_seen 19 = .ok (.iconst 0, 1) := by decide +kernel
theorem dd_M_seen_20 : decode bb_M_seen 20 = .ok (.ireturn, 1) := by decide +kernel
theorem dd_M_seen_21 : decode bb_M_seen 21 = .ok (.iconst 0, 1) := by decide +kernel
theorem dd_M_seen_22 : decode bb_M_seen 22 = .ok (.istore_n 1, 1) := by decide +kernel
theorem dd_M_seen_23 : decode bb_M_seen 23 = .ok (.iconst 0, 1) := by decide +kernel
theorem dd_M_seen_24 : decode bb_M_seen 24 = .ok (.istore_n 2, 1) := by decide +kernel
theorem dd_M_seen_25 : decode bb_M_seen 25 = .ok (.iload_n 2, 1) := by decide +kernel
theorem dd_M_seen_26 : decode bb_M_seen 26 = .ok (.aload_n 0, 1) := by decide +kernel
theorem dd_M_seen_27 : decode bb_M_seen 27 = .ok (.getfield 161, 3) := by decide +kernel
theorem dd_M_seen_30 : decode bb_M_seen 30 = .ok (.if_icmp .gt 29, 3) := by decide +kernel
theorem dd_M_seen_33 : decode bb_M_seen 33 = .ok (.aload_n 0, 1) := by decide +kernel
theorem dd_M_seen_34 : decode bb_M_seen 34 = .ok (.iload_n 2, 1) := by decide +kernel
theorem dd_M_seen_35 : decode bb_M_seen 35 = .ok (.aload_n 0, 1) := by decide +kernel
theorem dd_M_seen_36 : decode bb_M_seen 36 = .ok (.getfield 161, 3) := by decide +kernel
theorem dd_M_seen_39 : decode bb_M_seen 39 = .ok (.invokevirtual 181, 3) := by decide +kernel
theorem dd_M_seen_42 : decode bb_M_seen 42 = .ok (.ifCond .eq 9, 3) := by decide +kernel
theorem dd_M_seen_45 : decode bb_M_seen 45 = .ok (.iload_n 1, 1) := by decide +kernel
theorem dd_M_seen_46 : decode bb_M_seen 46 = .ok (.iconst 1, 1) := by decide +kernel
theorem dd_M_seen_47 : decode bb_M_seen 47 = .ok (.iadd, 1) := by decide +kernel
theorem dd_M_seen_48 : decode bb_M_seen 48 = .ok (.goto 4, 3) := by decide +kernel
theorem dd_M_seen_51 : decode bb_M_seen 51 = .ok (.iload_n 1, 1) := by decide +kernel
theorem dd_M_seen_52 : decode bb_M_seen 52 = .ok (.istore_n 1, 1) := by decide +kernel
theorem dd_M_seen_53 : decode bb_M_seen 53 = .ok (.iinc 2 1, 3) := by decide +kernel
theorem dd_M_seen_56 : decode bb_M_seen 56 = .ok (.goto (-31), 3) := by decide +kernel
theorem dd_M_seen_59 : decode bb_M_seen 59 = .ok (.iload_n 1, 1) := by decide +kernel
theorem dd_M_seen_60 : decode bb_M_seen 60 = .ok (.ireturn, 1) := by decide +kernel
abbrev ty_M_seen : Type := Int32 × Int32
noncomputable def bk_M_seen_52 (mpl : Int32) (mmd : Int32) (pa : Nat → Int32) (pS : Nat → Int32) (pR : Nat → Int32) (pG : Nat → Int32) (k25 : Int32 → Int32 → Int32 → Option ty_M_seen) (mth : Int32) (x2 : Int32) (s0 : Int32) : Option ty_M_seen := qq_let (x2 + 1) fun v1001 => k25 mth s0 v1001
noncomputable def lo_M_seen_25 (mpl : Int32) (mmd : Int32) (pa : Nat → Int32) (pS : Nat → Int32) (pR : Nat → Int32) (pG : Nat → Int32) : Nat → Int32 → Int32 → Int32 → Option ty_M_seen
  | 0, _, _, _ => none
  | n + 1, mth, x1, x2 => if mmd < x2 then (some (x1, mth)) else ((fn_M_same pa pS pR pG x2 mmd).bind fun r2001 => if r2001 = 0 then (bk_M_seen_52 mpl mmd pa pS pR pG (lo_M_seen_25 mpl mmd pa pS pR pG n) mth x2 x1) else (bk_M_seen_52 mpl mmd pa pS pR pG (lo_M_seen_25 mpl mmd pa pS pR pG n) mth x2 (x1 + 1)))
theorem lo_M_seen_25_z (mpl : Int32) (mmd : Int32) (pa : Nat → Int32) (pS : Nat → Int32) (pR : Nat → Int32) (pG : Nat → Int32) (mth : Int32) (x1 : Int32) (x2 : Int32) : lo_M_seen_25 mpl mmd pa pS pR pG 0 mth x1 x2 = none := rfl
theorem lo_M_seen_25_s (mpl : Int32) (mmd : Int32) (pa : Nat → Int32) (pS : Nat → Int32) (pR : Nat → Int32) (pG : Nat → Int32) (mth : Int32) (x1 : Int32) (x2 : Int32) (n : Nat) : lo_M_seen_25 mpl mmd pa pS pR pG (n + 1) mth x1 x2 = (if mmd < x2 then (some (x1, mth)) else ((fn_M_same pa pS pR pG x2 mmd).bind fun r2001 => if r2001 = 0 then (bk_M_seen_52 mpl mmd pa pS pR pG (lo_M_seen_25 mpl mmd pa pS pR pG n) mth x2 x1) else (bk_M_seen_52 mpl mmd pa pS pR pG (lo_M_seen_25 mpl mmd pa pS pR pG n) mth x2 (x1 + 1)))) := rfl
noncomputable def bk_M_seen_13 (mpl : Int32) (mmd : Int32) (pa : Nat → Int32) (pS : Nat → Int32) (pR : Nat → Int32) (pG : Nat → Int32) (mth : Int32) (s1 : Int32) : Option ty_M_seen := (fn_M_refused mth s1).bind fun (r3001, mth_3002) => if r3001 = 0 then (lo_M_seen_25 mpl mmd pa pS pR pG qq_FU mth_3002 0 0) else (some (0, mth_3002))
noncomputable def fn_M_seen (mth : Int32) (mpl : Int32) (mmd : Int32) (pa : Nat → Int32) (pS : Nat → Int32) (pR : Nat → Int32) (pG : Nat → Int32) : Option ty_M_seen := if mpl = 0 then (bk_M_seen_13 mpl mmd pa pS pR pG mth 1) else (bk_M_seen_13 mpl mmd pa pS pR pG mth 0)
abbrev rm_M_seen : Room := { frames := 1, cells := 0, slots := 0, locals := 24 }
set_option maxHeartbeats 4000000 in
set_option maxRecDepth 100000 in
theorem ct_M_seen (l : Launch) (dC : Nat → ClassId) (dI : Nat → Nat → Nat) (cI cL cR : ClassId) (oM obd opa opS opR opG opP opQ okp okS okR okP okQ oli : Nat) (mth : Int32) (mpl : Int32) (msd : Int32) (mrt : Int32) (mps : Int32) (mqt : Int32) (mmd : Int32) (bd : Nat → Int32) (pa : Nat → Int32) (pS : Nat → Int32) (pR : Nat → Int32) (pG : Nat → Int32) (pP : Nat → Int32) (pQ : Nat → Int32) (kp : Nat → Int32) (kS : Nat → Int32) (kR : Nat → Int32) (kP : Nat → Int32) (kQ : Nat → Int32) (li : Nat → Int32) {rr : Int32} {mth' : Int32} (hf : fn_M_seen mth mpl mmd pa pS pR pG = some (rr, mth')) : qq_det l yy_M_seen (ww_of yy_M_seen bb_M_seen 3 (some .int)) rm_M_seen (dC, dI) (qq_ty cI cL cR) [.ref oM] [(oM, .inr (5, [.int mth, .int mpl, .ref obd, .int msd, .int mrt, .int mps, .int mqt, .int mmd, .ref opa, .ref opS, .ref opR, .ref opG, .ref opP, .ref opQ, .ref okp, .ref okS, .ref okR, .ref okP, .ref okQ, .ref oli])), (obd, .inl (cI, 64, .inl bd)), (opa, .inl (cI, 9664, .inl pa)), (opS, .inl (cI, 151, .inl pS)), (opR, .inl (cI, 151, .inl pR)), (opG, .inl (cI, 151, .inl pG)), (opP, .inl (cI, 151, .inl pP)), (opQ, .inl (cI, 151, .inl pQ)), (okp, .inl (cI, 256, .inl kp)), (okS, .inl (cI, 4, .inl kS)), (okR, .inl (cI, 4, .inl kR)), (okP, .inl (cI, 4, .inl kP)), (okQ, .inl (cI, 4, .inl kQ)), (oli, .inl (cI, 1320, .inl li))] (some (.int rr)) [(oM, .inr (5, [.int mth', .int mpl, .ref obd, .int msd, .int mrt, .int mps, .int mqt, .int mmd, .ref opa, .ref opS, .ref opR, .ref opG, .ref opP, .ref opQ, .ref okp, .ref okS, .ref okR, .ref okP, .ref okQ, .ref oli])), (obd, .inl (cI, 64, .inl bd)), (opa, .inl (cI, 9664, .inl pa)), (opS, .inl (cI, 151, .inl pS)), (opR, .inl (cI, 151, .inl pR)), (opG, .inl (cI, 151, .inl pG)), (opP, .inl (cI, 151, .inl pP)), (opQ, .inl (cI, 151, .inl pQ)), (okp, .inl (cI, 256, .inl kp)), (okS, .inl (cI, 4, .inl kS)), (okR, .inl (cI, 4, .inl kR)), (okP, .inl (cI, 4, .inl kP)), (okQ, .inl (cI, 4, .inl kQ)), (oli, .inl (cI, 1320, .inl li))] := by
  refine qq_of (own := RR_M) (by decide) rfl (Nat.le_of_ble_eq_true rfl) ?_
  intro p e s m below meth c A Q ls hx hb hml hr hlocks hown hts hK hA hT hN hP hD hS hl hQ
  have hl : lv_has ls 3 [(0, .ref oM)] := hl
  have hL25 : ∀ (n25 : Nat) (mth : Int32) (x1 : Int32) (x2 : Int32) (H : Heap) (locs : List Loc) (ls : Array Slot), lv_has ls 3 [(0, .ref oM), (1, .int x1), (2, .int x2)] → va_P (dC, dI) classes [(oM, .inr (5, [.int mth, .int mpl, .ref obd, .int msd, .int mrt, .int mps, .int mqt, .int mmd, .ref opa, .ref opS, .ref opR, .ref opG, .ref opP, .ref opQ, .ref okp, .ref okS, .ref okR, .ref okP, .ref okQ, .ref oli])), (obd, .inl (cI, 64, .inl bd)), (opa, .inl (cI, 9664, .inl pa)), (opS, .inl (cI, 151, .inl pS)), (opR, .inl (cI, 151, .inl pR)), (opG, .inl (cI, 151, .inl pG)), (opP, .inl (cI, 151, .inl pP)), (opQ, .inl (cI, 151, .inl pQ)), (okp, .inl (cI, 256, .inl kp)), (okS, .inl (cI, 4, .inl kS)), (okR, .inl (cI, 4, .inl kR)), (okP, .inl (cI, 4, .inl kP)), (okQ, .inl (cI, 4, .inl kQ)), (oli, .inl (cI, 1320, .inl li))] H → va_D A [(oM, .inr (5, [.int mth, .int mpl, .ref obd, .int msd, .int mrt, .int mps, .int mqt, .int mmd, .ref opa, .ref opS, .ref opR, .ref opG, .ref opP, .ref opQ, .ref okp, .ref okS, .ref okR, .ref okP, .ref okQ, .ref oli])), (obd, .inl (cI, 64, .inl bd)), (opa, .inl (cI, 9664, .inl pa)), (opS, .inl (cI, 151, .inl pS)), (opR, .inl (cI, 151, .inl pR)), (opG, .inl (cI, 151, .inl pG)), (opP, .inl (cI, 151, .inl pP)), (opQ, .inl (cI, 151, .inl pQ)), (okp, .inl (cI, 256, .inl kp)), (okS, .inl (cI, 4, .inl kS)), (okR, .inl (cI, 4, .inl kR)), (okP, .inl (cI, 4, .inl kP)), (okQ, .inl (cI, 4, .inl kQ)), (oli, .inl (cI, 1320, .inl li))] → va_S A s.heap H locs → lo_M_seen_25 mpl mmd pa pS pR pG n25 mth x1 x2 = some (rr, mth') → W p l e rm_M_seen s m ([.ref oM] : List Value).toArray below meth c H locs 0 0 Q (F0 m 25 ls []) := by
    intro n25
    induction n25 with
    | zero => exact fun mth x1 x2 H locs ls hl hP hD hS hf => absurd hf (by rw [lo_M_seen_25_z]; exact fun h => by cases h)
    | succ n25 ih25 =>
      have hJ52 : ∀ (mth : Int32) (x2 : Int32) (s0 : Int32) (H : Heap) (locs : List Loc) (ls : Array Slot), lv_has ls 3 [(0, .ref oM), (2, .int x2)] → va_P (dC, dI) classes [(oM, .inr (5, [.int mth, .int mpl, .ref obd, .int msd, .int mrt, .int mps, .int mqt, .int mmd, .ref opa, .ref opS, .ref opR, .ref opG, .ref opP, .ref opQ, .ref okp, .ref okS, .ref okR, .ref okP, .ref okQ, .ref oli])), (obd, .inl (cI, 64, .inl bd)), (opa, .inl (cI, 9664, .inl pa)), (opS, .inl (cI, 151, .inl pS)), (opR, .inl (cI, 151, .inl pR)), (opG, .inl (cI, 151, .inl pG)), (opP, .inl (cI, 151, .inl pP)), (opQ, .inl (cI, 151, .inl pQ)), (okp, .inl (cI, 256, .inl kp)), (okS, .inl (cI, 4, .inl kS)), (okR, .inl (cI, 4, .inl kR)), (okP, .inl (cI, 4, .inl kP)), (okQ, .inl (cI, 4, .inl kQ)), (oli, .inl (cI, 1320, .inl li))] H → va_D A [(oM, .inr (5, [.int mth, .int mpl, .ref obd, .int msd, .int mrt, .int mps, .int mqt, .int mmd, .ref opa, .ref opS, .ref opR, .ref opG, .ref opP, .ref opQ, .ref okp, .ref okS, .ref okR, .ref okP, .ref okQ, .ref oli])), (obd, .inl (cI, 64, .inl bd)), (opa, .inl (cI, 9664, .inl pa)), (opS, .inl (cI, 151, .inl pS)), (opR, .inl (cI, 151, .inl pR)), (opG, .inl (cI, 151, .inl pG)), (opP, .inl (cI, 151, .inl pP)), (opQ, .inl (cI, 151, .inl pQ)), (okp, .inl (cI, 256, .inl kp)), (okS, .inl (cI, 4, .inl kS)), (okR, .inl (cI, 4, .inl kR)), (okP, .inl (cI, 4, .inl kP)), (okQ, .inl (cI, 4, .inl kQ)), (oli, .inl (cI, 1320, .inl li))] → va_S A s.heap H locs → bk_M_seen_52 mpl mmd pa pS pR pG (lo_M_seen_25 mpl mmd pa pS pR pG n25) mth x2 s0 = some (rr, mth') → W p l e rm_M_seen s m ([.ref oM] : List Value).toArray below meth c H locs 0 0 Q (F0 m 52 ls [.int s0]) := by
        intro mth x2 s0 H locs ls hl hP hD hS hf
        rw [bk_M_seen_52] at hf
        refine lv_istore_n (lv' := [(1, .int s0), (0, .ref oM), (2, .int x2)]) hx hb dd_M_seen_52 rfl hl (by decide) rfl (fun ls hl => ?_)
        obtain ⟨v1001, ev1001⟩ : ∃ z, z = x2 + 1 := ⟨_, rfl⟩
        replace hf := qq_lt ev1001 hf
        refine lv_iinc (k := 2) (v := v1001) (lv' := [(2, .int v1001), (1, .int s0), (0, .ref oM)]) hx hb dd_M_seen_53 hl rfl (by rw [ev1001]; exact congrArg _ (by decide)) (by decide) rfl (fun ls hl => ?_)
        refine lv_goto (tgt := 25) hx hb dd_M_seen_56 (by decide) ?_
        exact ih25 mth s0 v1001 _ _ _ (lv_sub hl [2, 1, 0] rfl) hP hD hS hf
      intro mth x1 x2 H locs ls hl hP hD hS hf
      rw [lo_M_seen_25_s] at hf
      refine lv_iload_n hx hb dd_M_seen_25 rfl (lv_at hl 2 rfl) ?_
      refine lv_aload_n hx hb dd_M_seen_26 rfl (lv_at hl 0 rfl) ?_
      refine va_get (D := (dC, dI)) (ci := 5) (v := .int mmd) (C := RR_M) (T := FF_M) (N := 20) hx hb hts uu_M hown hK hP 0 rfl rfl 7 (by decide) (hts _ mm_316) (fun _ h9 => h9) rfl dd_M_seen_27 ?_
      refine lv_icmp_gt (tgt := 59) hx hb dd_M_seen_30 (by decide) (fun hc => ?_) (fun hc => ?_)
      · replace hf := qq_t hc hf
        refine lv_iload_n hx hb dd_M_seen_59 rfl (lv_at hl 1 rfl) ?_
        cases hf
        exact qq_iret hx hb hr hlocks hQ hP hD hK hS dd_M_seen_60
      · replace hf := qq_f hc hf
        refine lv_aload_n hx hb dd_M_seen_33 rfl (lv_at hl 0 rfl) ?_
        refine lv_iload_n hx hb dd_M_seen_34 rfl (lv_at hl 2 rfl) ?_
        refine lv_aload_n hx hb dd_M_seen_35 rfl (lv_at hl 0 rfl) ?_
        refine va_get (D := (dC, dI)) (ci := 5) (v := .int mmd) (C := RR_M) (T := FF_M) (N := 20) hx hb hts uu_M hown hK hP 0 rfl rfl 7 (by decide) (hts _ mm_316) (fun _ h9 => h9) rfl dd_M_seen_36 ?_
        obtain ⟨r2001, hy2001, hf⟩ := qq_bd hf
        refine qq_V (As := [.int x2, .int mmd]) (rest := []) (wr := []) (wf := [(oM, .inr (5, [.int mth, .int mpl, .ref obd, .int msd, .int mrt, .int mps, .int mqt, .int mmd, .ref opa, .ref opS, .ref opR, .ref opG, .ref opP, .ref opQ, .ref okp, .ref okS, .ref okR, .ref okP, .ref okQ, .ref oli])), (obd, .inl (cI, 64, .inl bd)), (opa, .inl (cI, 9664, .inl pa)), (opS, .inl (cI, 151, .inl pS)), (opR, .inl (cI, 151, .inl pR)), (opG, .inl (cI, 151, .inl pG)), (opP, .inl (cI, 151, .inl pP)), (opQ, .inl (cI, 151, .inl pQ)), (okp, .inl (cI, 256, .inl kp)), (okS, .inl (cI, 4, .inl kS)), (okR, .inl (cI, 4, .inl kR)), (okP, .inl (cI, 4, .inl kP)), (okQ, .inl (cI, 4, .inl kQ)), (oli, .inl (cI, 1320, .inl li))]) ⟨hx, hb, hml, hown, hts⟩ (ct_M_same l dC dI cI cL cR oM obd opa opS opR opG opP opQ okp okS okR okP okQ oli mth mpl msd mrt mps mqt mmd bd pa pS pR pG pP pQ kp kS kR kP kQ li x2 mmd hy2001) mm_356 mm_357 mm_358 mm_355 mm_211 hd_M_same (by decide) qq_00 hP hD hK hS hA hT hN (q0 := 0) (ci := 5) rfl rfl [0, 1, 2, 3, 4, 5, 6, 7, 8, 9, 10, 11, 12, 13] [] [0, 1, 2, 3, 4, 5, 6, 7, 8, 9, 10, 11, 12, 13] rfl rfl rfl (by decide) rfl hl.1 rfl (Nat.le_of_ble_eq_true rfl) dd_M_seen_39 (fun H locs hP hD hS => ?_)
        refine W.eq (g2 := F0 m 42 ls [.int r2001]) rfl ?_
        refine lv_if_eq (tgt := 51) hx hb dd_M_seen_42 (by decide) (fun hc => ?_) (fun hc => ?_)
        · replace hf := qq_t hc hf
          refine lv_iload_n hx hb dd_M_seen_51 rfl (lv_at hl 1 rfl) ?_
          exact hJ52 mth x2 x1 _ _ _ (lv_sub hl [0, 2] rfl) hP hD hS hf
        · replace hf := qq_f hc hf
          refine lv_iload_n hx hb dd_M_seen_45 rfl (lv_at hl 1 rfl) ?_
          refine lv_iconst (v := 1) hx hb dd_M_seen_46 (by decide) ?_
          refine lv_iadd hx hb dd_M_seen_47 ?_
          refine lv_goto (tgt := 52) hx hb dd_M_seen_48 (by decide) ?_
          exact hJ52 mth x2 (x1 + 1) _ _ _ (lv_sub hl [0, 2] rfl) hP hD hS hf
  have hJ13 : ∀ (mth : Int32) (s1 : Int32) (H : Heap) (locs : List Loc) (ls : Array Slot), lv_has ls 3 [(0, .ref oM)] → va_P (dC, dI) classes [(oM, .inr (5, [.int mth, .int mpl, .ref obd, .int msd, .int mrt, .int mps, .int mqt, .int mmd, .ref opa, .ref opS, .ref opR, .ref opG, .ref opP, .ref opQ, .ref okp, .ref okS, .ref okR, .ref okP, .ref okQ, .ref oli])), (obd, .inl (cI, 64, .inl bd)), (opa, .inl (cI, 9664, .inl pa)), (opS, .inl (cI, 151, .inl pS)), (opR, .inl (cI, 151, .inl pR)), (opG, .inl (cI, 151, .inl pG)), (opP, .inl (cI, 151, .inl pP)), (opQ, .inl (cI, 151, .inl pQ)), (okp, .inl (cI, 256, .inl kp)), (okS, .inl (cI, 4, .inl kS)), (okR, .inl (cI, 4, .inl kR)), (okP, .inl (cI, 4, .inl kP)), (okQ, .inl (cI, 4, .inl kQ)), (oli, .inl (cI, 1320, .inl li))] H → va_D A [(oM, .inr (5, [.int mth, .int mpl, .ref obd, .int msd, .int mrt, .int mps, .int mqt, .int mmd, .ref opa, .ref opS, .ref opR, .ref opG, .ref opP, .ref opQ, .ref okp, .ref okS, .ref okR, .ref okP, .ref okQ, .ref oli])), (obd, .inl (cI, 64, .inl bd)), (opa, .inl (cI, 9664, .inl pa)), (opS, .inl (cI, 151, .inl pS)), (opR, .inl (cI, 151, .inl pR)), (opG, .inl (cI, 151, .inl pG)), (opP, .inl (cI, 151, .inl pP)), (opQ, .inl (cI, 151, .inl pQ)), (okp, .inl (cI, 256, .inl kp)), (okS, .inl (cI, 4, .inl kS)), (okR, .inl (cI, 4, .inl kR)), (okP, .inl (cI, 4, .inl kP)), (okQ, .inl (cI, 4, .inl kQ)), (oli, .inl (cI, 1320, .inl li))] → va_S A s.heap H locs → bk_M_seen_13 mpl mmd pa pS pR pG mth s1 = some (rr, mth') → W p l e rm_M_seen s m ([.ref oM] : List Value).toArray below meth c H locs 0 0 Q (F0 m 13 ls [.int s1, .ref oM]) := by
    intro mth s1 H locs ls hl hP hD hS hf
    rw [bk_M_seen_13] at hf
    obtain ⟨⟨r3001, mth_3002⟩, hy3002, hf⟩ := qq_bd hf
    dsimp only at hf
    refine qq_V (As := [.int s1]) (rest := []) (wr := []) (wf := [(oM, .inr (5, [.int mth_3002, .int mpl, .ref obd, .int msd, .int mrt, .int mps, .int mqt, .int mmd, .ref opa, .ref opS, .ref opR, .ref opG, .ref opP, .ref opQ, .ref okp, .ref okS, .ref okR, .ref okP, .ref okQ, .ref oli])), (obd, .inl (cI, 64, .inl bd)), (opa, .inl (cI, 9664, .inl pa)), (opS, .inl (cI, 151, .inl pS)), (opR, .inl (cI, 151, .inl pR)), (opG, .inl (cI, 151, .inl pG)), (opP, .inl (cI, 151, .inl pP)), (opQ, .inl (cI, 151, .inl pQ)), (okp, .inl (cI, 256, .inl kp)), (okS, .inl (cI, 4, .inl kS)), (okR, .inl (cI, 4, .inl kR)), (okP, .inl (cI, 4, .inl kP)), (okQ, .inl (cI, 4, .inl kQ)), (oli, .inl (cI, 1320, .inl li))]) ⟨hx, hb, hml, hown, hts⟩ (ct_M_refused l dC dI cI cL cR oM obd opa opS opR opG opP opQ okp okS okR okP okQ oli mth mpl msd mrt mps mqt mmd bd pa pS pR pG pP pQ kp kS kR kP kQ li s1 hy3002) mm_327 mm_328 mm_329 mm_326 mm_211 hd_M_refused (by decide) qq_00 hP hD hK hS hA hT hN (q0 := 0) (ci := 5) rfl rfl [0, 1, 2, 3, 4, 5, 6, 7, 8, 9, 10, 11, 12, 13] [] [0, 1, 2, 3, 4, 5, 6, 7, 8, 9, 10, 11, 12, 13] rfl rfl rfl (by decide) rfl hl.1 rfl (Nat.le_of_ble_eq_true rfl) dd_M_seen_13 (fun H locs hP hD hS => ?_)
    refine W.eq (g2 := F0 m 16 ls [.int r3001]) rfl ?_
    refine lv_if_eq (tgt := 21) hx hb dd_M_seen_16 (by decide) (fun hc => ?_) (fun hc => ?_)
    · replace hf := qq_t hc hf
      refine lv_iconst (v := 0) hx hb dd_M_seen_21 (by decide) ?_
      refine lv_istore_n (lv' := [(1, .int 0), (0, .ref oM)]) hx hb dd_M_seen_22 rfl hl (by decide) rfl (fun ls hl => ?_)
      refine lv_iconst (v := 0) hx hb dd_M_seen_23 (by decide) ?_
      refine lv_istore_n (lv' := [(2, .int 0), (1, .int 0), (0, .ref oM)]) hx hb dd_M_seen_24 rfl hl (by decide) rfl (fun ls hl => ?_)
      exact hL25 qq_FU mth_3002 0 0 _ _ _ (lv_sub hl [2, 1, 0] rfl) hP hD hS hf
    · replace hf := qq_f hc hf
      refine lv_iconst (v := 0) hx hb dd_M_seen_19 (by decide) ?_
      cases hf
      exact qq_iret hx hb hr hlocks hQ hP hD hK hS dd_M_seen_20
  rw [fn_M_seen] at hf
  refine lv_aload_n hx hb dd_M_seen_0 rfl (lv_at hl 0 rfl) ?_
  refine lv_aload_n hx hb dd_M_seen_1 rfl (lv_at hl 0 rfl) ?_
  refine va_get (D := (dC, dI)) (ci := 5) (v := .int mpl) (C := RR_M) (T := FF_M) (N := 20) hx hb hts uu_M hown hK hP 0 rfl rfl 1 (by decide) (hts _ mm_330) (fun _ h9 => h9) rfl dd_M_seen_2 ?_
  refine lv_if_eq (tgt := 12) hx hb dd_M_seen_5 (by decide) (fun hc => ?_) (fun hc => ?_)
  · replace hf := qq_t hc hf
    refine lv_iconst (v := 1) hx hb dd_M_seen_12 (by decide) ?_
    exact hJ13 mth 1 _ _ _ (lv_sub hl [0] rfl) hP hD hS hf
  · replace hf := qq_f hc hf
    refine lv_iconst (v := 0) hx hb dd_M_seen_8 (by decide) ?_
    refine lv_goto (tgt := 13) hx hb dd_M_seen_9 (by decide) ?_
    exact hJ13 mth 0 _ _ _ (lv_sub hl [0] rfl) hP hD hS hf
theorem dd_M_side_0 : decode bb_M_side 0 = .ok (.aload_n 0, 1) := by decide +kernel
theorem dd_M_side_1 : decode bb_M_side 1 = .ok (.iconst 0, 1) := by decide +kernel
theorem dd_M_side_2 : decode bb_M_side 2 = .ok (.putfield 63, 3) := by decide +kernel
theorem dd_M_side_5 : decode bb_M_side 5 = .ok (.aload_n 0, 1) := by decide +kernel
theorem dd_M_side_6 : decode bb_M_side 6 = .ok (.getfield 56, 3) := by decide +kernel
theorem dd_M_side_9 : decode bb_M_side 9 = .ok (.ifCond .eq 10, 3) := by decide +kernel
theorem dd_M_side_12 : decode bb_M_side 12 = .ok (.aload_n 0, 1) := by decide +kernel
theorem dd_M_side_13 : decode bb_M_side 13 = .ok (.getfield 95, 3) := by decide +kernel
theorem dd_M_side_16 : decode bb_M_side 16 = .ok (.goto 4, 3) := by decide +kernel
theorem dd_M_side_19 : decode bb_M_side 19 = .ok (.iconst (-1), 1) := by decide +kernel
theorem dd_M_side_20 : decode bb_M_side 20 = .ok (.ireturn, 1) := by decide +kernel
abbrev ty_M_side : Type := Int32 × Int32
noncomputable def bk_M_side_20 (mpl : Int32) (msd : Int32) (mth : Int32) (s0 : Int32) : Option ty_M_side := some (s0, mth)
noncomputable def fn_M_side (mth : Int32) (mpl : Int32) (msd : Int32) : Option ty_M_side := if mpl = 0 then (bk_M_side_20 mpl msd 0 (-1)) else (bk_M_side_20 mpl msd 0 msd)
abbrev rm_M_side : Room := { frames := 0, cells := 0, slots := 0, locals := 0 }
set_option maxHeartbeats 4000000 in
set_option maxRecDepth 100000 in
theorem ct_M_side (l : Launch) (dC : Nat → ClassId) (dI : Nat → Nat → Nat) (cI cL cR : ClassId) (oM obd opa opS opR opG opP opQ okp okS okR okP okQ oli : Nat) (mth : Int32) (mpl : Int32) (msd : Int32) (mrt : Int32) (mps : Int32) (mqt : Int32) (mmd : Int32) (bd : Nat → Int32) (pa : Nat → Int32) (pS : Nat → Int32) (pR : Nat → Int32) (pG : Nat → Int32) (pP : Nat → Int32) (pQ : Nat → Int32) (kp : Nat → Int32) (kS : Nat → Int32) (kR : Nat → Int32) (kP : Nat → Int32) (kQ : Nat → Int32) (li : Nat → Int32) {rr : Int32} {mth' : Int32} (hf : fn_M_side mth mpl msd = some (rr, mth')) : qq_det l yy_M_side (ww_of yy_M_side bb_M_side 1 (some .int)) rm_M_side (dC, dI) (qq_ty cI cL cR) [.ref oM] [(oM, .inr (5, [.int mth, .int mpl, .ref obd, .int msd, .int mrt, .int mps, .int mqt, .int mmd, .ref opa, .ref opS, .ref opR, .ref opG, .ref opP, .ref opQ, .ref okp, .ref okS, .ref okR, .ref okP, .ref okQ, .ref oli])), (obd, .inl (cI, 64, .inl bd)), (opa, .inl (cI, 9664, .inl pa)), (opS, .inl (cI, 151, .inl pS)), (opR, .inl (cI, 151, .inl pR)), (opG, .inl (cI, 151, .inl pG)), (opP, .inl (cI, 151, .inl pP)), (opQ, .inl (cI, 151, .inl pQ)), (okp, .inl (cI, 256, .inl kp)), (okS, .inl (cI, 4, .inl kS)), (okR, .inl (cI, 4, .inl kR)), (okP, .inl (cI, 4, .inl kP)), (okQ, .inl (cI, 4, .inl kQ)), (oli, .inl (cI, 1320, .inl li))] (some (.int rr)) [(oM, .inr (5, [.int mth', .int mpl, .ref obd, .int msd, .int mrt, .int mps, .int mqt, .int mmd, .ref opa, .ref opS, .ref opR, .ref opG, .ref opP, .ref opQ, .ref okp, .ref okS, .ref okR, .ref okP, .ref okQ, .ref oli])), (obd, .inl (cI, 64, .inl bd)), (opa, .inl (cI, 9664, .inl pa)), (opS, .inl (cI, 151, .inl pS)), (opR, .inl (cI, 151, .inl pR)), (opG, .inl (cI, 151, .inl pG)), (opP, .inl (cI, 151, .inl pP)), (opQ, .inl (cI, 151, .inl pQ)), (okp, .inl (cI, 256, .inl kp)), (okS, .inl (cI, 4, .inl kS)), (okR, .inl (cI, 4, .inl kR)), (okP, .inl (cI, 4, .inl kP)), (okQ, .inl (cI, 4, .inl kQ)), (oli, .inl (cI, 1320, .inl li))] := by
  refine qq_of (own := RR_M) (by decide) rfl (Nat.le_of_ble_eq_true rfl) ?_
  intro p e s m below meth c A Q ls hx hb hml hr hlocks hown hts hK hA hT hN hP hD hS hl hQ
  have hl : lv_has ls 1 [(0, .ref oM)] := hl
  have hJ20 : ∀ (mth : Int32) (s0 : Int32) (H : Heap) (locs : List Loc) (ls : Array Slot), lv_has ls 1 [] → va_P (dC, dI) classes [(oM, .inr (5, [.int mth, .int mpl, .ref obd, .int msd, .int mrt, .int mps, .int mqt, .int mmd, .ref opa, .ref opS, .ref opR, .ref opG, .ref opP, .ref opQ, .ref okp, .ref okS, .ref okR, .ref okP, .ref okQ, .ref oli])), (obd, .inl (cI, 64, .inl bd)), (opa, .inl (cI, 9664, .inl pa)), (opS, .inl (cI, 151, .inl pS)), (opR, .inl (cI, 151, .inl pR)), (opG, .inl (cI, 151, .inl pG)), (opP, .inl (cI, 151, .inl pP)), (opQ, .inl (cI, 151, .inl pQ)), (okp, .inl (cI, 256, .inl kp)), (okS, .inl (cI, 4, .inl kS)), (okR, .inl (cI, 4, .inl kR)), (okP, .inl (cI, 4, .inl kP)), (okQ, .inl (cI, 4, .inl kQ)), (oli, .inl (cI, 1320, .inl li))] H → va_D A [(oM, .inr (5, [.int mth, .int mpl, .ref obd, .int msd, .int mrt, .int mps, .int mqt, .int mmd, .ref opa, .ref opS, .ref opR, .ref opG, .ref opP, .ref opQ, .ref okp, .ref okS, .ref okR, .ref okP, .ref okQ, .ref oli])), (obd, .inl (cI, 64, .inl bd)), (opa, .inl (cI, 9664, .inl pa)), (opS, .inl (cI, 151, .inl pS)), (opR, .inl (cI, 151, .inl pR)), (opG, .inl (cI, 151, .inl pG)), (opP, .inl (cI, 151, .inl pP)), (opQ, .inl (cI, 151, .inl pQ)), (okp, .inl (cI, 256, .inl kp)), (okS, .inl (cI, 4, .inl kS)), (okR, .inl (cI, 4, .inl kR)), (okP, .inl (cI, 4, .inl kP)), (okQ, .inl (cI, 4, .inl kQ)), (oli, .inl (cI, 1320, .inl li))] → va_S A s.heap H locs → bk_M_side_20 mpl msd mth s0 = some (rr, mth') → W p l e rm_M_side s m ([.ref oM] : List Value).toArray below meth c H locs 0 0 Q (F0 m 20 ls [.int s0]) := by
    intro mth s0 H locs ls hl hP hD hS hf
    rw [bk_M_side_20] at hf
    cases hf
    exact qq_iret hx hb hr hlocks hQ hP hD hK hS dd_M_side_20
  rw [fn_M_side] at hf
  refine lv_aload_n hx hb dd_M_side_0 rfl (lv_at hl 0 rfl) ?_
  refine lv_iconst (v := 0) hx hb dd_M_side_1 (by decide) ?_
  refine va_put (D := (dC, dI)) (ci := 5) (v := .int 0) (ty := .int) (C := RR_M) (T := FF_M) (N := 20) hx hb hts uu_M tt_M tt_M_ok nn_M hown hK hP hD hS 0 rfl rfl 0 (by decide) (hts _ mm_310) (fun _ h9 => h9) rfl (by decide +kernel) rfl rfl (Nat.le_of_ble_eq_true rfl) dd_M_side_2 (fun H locs hP hD hS => ?_)
  have hP : va_P (dC, dI) classes [(oM, .inr (5, [.int 0, .int mpl, .ref obd, .int msd, .int mrt, .int mps, .int mqt, .int mmd, .ref opa, .ref opS, .ref opR, .ref opG, .ref opP, .ref opQ, .ref okp, .ref okS, .ref okR, .ref okP, .ref okQ, .ref oli])), (obd, .inl (cI, 64, .inl bd)), (opa, .inl (cI, 9664, .inl pa)), (opS, .inl (cI, 151, .inl pS)), (opR, .inl (cI, 151, .inl pR)), (opG, .inl (cI, 151, .inl pG)), (opP, .inl (cI, 151, .inl pP)), (opQ, .inl (cI, 151, .inl pQ)), (okp, .inl (cI, 256, .inl kp)), (okS, .inl (cI, 4, .inl kS)), (okR, .inl (cI, 4, .inl kR)), (okP, .inl (cI, 4, .inl kP)), (okQ, .inl (cI, 4, .inl kQ)), (oli, .inl (cI, 1320, .inl li))] H := hP
  have hD : va_D A [(oM, .inr (5, [.int 0, .int mpl, .ref obd, .int msd, .int mrt, .int mps, .int mqt, .int mmd, .ref opa, .ref opS, .ref opR, .ref opG, .ref opP, .ref opQ, .ref okp, .ref okS, .ref okR, .ref okP, .ref okQ, .ref oli])), (obd, .inl (cI, 64, .inl bd)), (opa, .inl (cI, 9664, .inl pa)), (opS, .inl (cI, 151, .inl pS)), (opR, .inl (cI, 151, .inl pR)), (opG, .inl (cI, 151, .inl pG)), (opP, .inl (cI, 151, .inl pP)), (opQ, .inl (cI, 151, .inl pQ)), (okp, .inl (cI, 256, .inl kp)), (okS, .inl (cI, 4, .inl kS)), (okR, .inl (cI, 4, .inl kR)), (okP, .inl (cI, 4, .inl kP)), (okQ, .inl (cI, 4, .inl kQ)), (oli, .inl (cI, 1320, .inl li))] := hD
  refine lv_aload_n hx hb dd_M_side_5 rfl (lv_at hl 0 rfl) ?_
  refine va_get (D := (dC, dI)) (ci := 5) (v := .int mpl) (C := RR_M) (T := FF_M) (N := 20) hx hb hts uu_M hown hK hP 0 rfl rfl 1 (by decide) (hts _ mm_330) (fun _ h9 => h9) rfl dd_M_side_6 ?_
  refine lv_if_eq (tgt := 19) hx hb dd_M_side_9 (by decide) (fun hc => ?_) (fun hc => ?_)
  · replace hf := qq_t hc hf
    refine lv_iconst (v := (-1)) hx hb dd_M_side_19 (by decide) ?_
    exact hJ20 0 (-1) _ _ _ (lv_sub hl [] rfl) hP hD hS hf
  · replace hf := qq_f hc hf
    refine lv_aload_n hx hb dd_M_side_12 rfl (lv_at hl 0 rfl) ?_
    refine va_get (D := (dC, dI)) (ci := 5) (v := .int msd) (C := RR_M) (T := FF_M) (N := 20) hx hb hts uu_M hown hK hP 0 rfl rfl 3 (by decide) (hts _ mm_228) (fun _ h9 => h9) rfl dd_M_side_13 ?_
    refine lv_goto (tgt := 20) hx hb dd_M_side_16 (by decide) ?_
    exact hJ20 0 msd _ _ _ (lv_sub hl [] rfl) hP hD hS hf
theorem dd_M_thrown_0 : decode bb_M_thrown 0 = .ok (.aload_n 0, 1) := by decide +kernel
theorem dd_M_thrown_1 : decode bb_M_thrown 1 = .ok (.getfield 63, 3) := by decide +kernel
theorem dd_M_thrown_4 : decode bb_M_thrown 4 = .ok (.ireturn, 1) := by decide +kernel
abbrev ty_M_thrown : Type := Int32
noncomputable def fn_M_thrown (mth : Int32) : Option ty_M_thrown := some mth
abbrev rm_M_thrown : Room := { frames := 0, cells := 0, slots := 0, locals := 0 }
set_option maxHeartbeats 4000000 in
set_option maxRecDepth 100000 in
theorem ct_M_thrown (l : Launch) (dC : Nat → ClassId) (dI : Nat → Nat → Nat) (cI cL cR : ClassId) (oM obd opa opS opR opG opP opQ okp okS okR okP okQ oli : Nat) (mth : Int32) (mpl : Int32) (msd : Int32) (mrt : Int32) (mps : Int32) (mqt : Int32) (mmd : Int32) (bd : Nat → Int32) (pa : Nat → Int32) (pS : Nat → Int32) (pR : Nat → Int32) (pG : Nat → Int32) (pP : Nat → Int32) (pQ : Nat → Int32) (kp : Nat → Int32) (kS : Nat → Int32) (kR : Nat → Int32) (kP : Nat → Int32) (kQ : Nat → Int32) (li : Nat → Int32) {rr : Int32} (hf : fn_M_thrown mth = some rr) : qq_det l yy_M_thrown (ww_of yy_M_thrown bb_M_thrown 1 (some .int)) rm_M_thrown (dC, dI) (qq_ty cI cL cR) [.ref oM] [(oM, .inr (5, [.int mth, .int mpl, .ref obd, .int msd, .int mrt, .int mps, .int mqt, .int mmd, .ref opa, .ref opS, .ref opR, .ref opG, .ref opP, .ref opQ, .ref okp, .ref okS, .ref okR, .ref okP, .ref okQ, .ref oli])), (obd, .inl (cI, 64, .inl bd)), (opa, .inl (cI, 9664, .inl pa)), (opS, .inl (cI, 151, .inl pS)), (opR, .inl (cI, 151, .inl pR)), (opG, .inl (cI, 151, .inl pG)), (opP, .inl (cI, 151, .inl pP)), (opQ, .inl (cI, 151, .inl pQ)), (okp, .inl (cI, 256, .inl kp)), (okS, .inl (cI, 4, .inl kS)), (okR, .inl (cI, 4, .inl kR)), (okP, .inl (cI, 4, .inl kP)), (okQ, .inl (cI, 4, .inl kQ)), (oli, .inl (cI, 1320, .inl li))] (some (.int rr)) [(oM, .inr (5, [.int mth, .int mpl, .ref obd, .int msd, .int mrt, .int mps, .int mqt, .int mmd, .ref opa, .ref opS, .ref opR, .ref opG, .ref opP, .ref opQ, .ref okp, .ref okS, .ref okR, .ref okP, .ref okQ, .ref oli])), (obd, .inl (cI, 64, .inl bd)), (opa, .inl (cI, 9664, .inl pa)), (opS, .inl (cI, 151, .inl pS)), (opR, .inl (cI, 151, .inl pR)), (opG, .inl (cI, 151, .inl pG)), (opP, .inl (cI, 151, .inl pP)), (opQ, .inl (cI, 151, .inl pQ)), (okp, .inl (cI, 256, .inl kp)), (okS, .inl (cI, 4, .inl kS)), (okR, .inl (cI, 4, .inl kR)), (okP, .inl (cI, 4, .inl kP)), (okQ, .inl (cI, 4, .inl kQ)), (oli, .inl (cI, 1320, .inl li))] := by
  refine qq_of (own := RR_M) (by decide) rfl (Nat.le_of_ble_eq_true rfl) ?_
  intro p e s m below meth c A Q ls hx hb hml hr hlocks hown hts hK hA hT hN hP hD hS hl hQ
  have hl : lv_has ls 1 [(0, .ref oM)] := hl
  rw [fn_M_thrown] at hf
  refine lv_aload_n hx hb dd_M_thrown_0 rfl (lv_at hl 0 rfl) ?_
  refine va_get (D := (dC, dI)) (ci := 5) (v := .int mth) (C := RR_M) (T := FF_M) (N := 20) hx hb hts uu_M hown hK hP 0 rfl rfl 0 (by decide) (hts _ mm_310) (fun _ h9 => h9) rfl dd_M_thrown_1 ?_
  cases hf
  exact qq_iret hx hb hr hlocks hQ hP hD hK hS dd_M_thrown_4
