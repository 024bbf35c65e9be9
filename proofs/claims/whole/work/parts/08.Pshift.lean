theorem dd_P_shift_0 : decode bb_P_shift 0 = .ok (.aload_n 0, 1) := by decide +kernel
theorem dd_P_shift_1 : decode bb_P_shift 1 = .ok (.getfield 9, 3) := by decide +kernel
theorem dd_P_shift_4 : decode bb_P_shift 4 = .ok (.iload_n 2, 1) := by decide +kernel
theorem dd_P_shift_5 : decode bb_P_shift 5 = .ok (.aload_n 0, 1) := by decide +kernel
theorem dd_P_shift_6 : decode bb_P_shift 6 = .ok (.getfield 9, 3) := by decide +kernel
theorem dd_P_shift_9 : decode bb_P_shift 9 = .ok (.iload_n 1, 1) := by decide +kernel
theorem dd_P_shift_10 : decode bb_P_shift 10 = .ok (.iaload, 1) := by decide +kernel
theorem dd_P_shift_11 : decode bb_P_shift 11 = .ok (.iastore, 1) := by decide +kernel
theorem dd_P_shift_12 : decode bb_P_shift 12 = .ok (.aload_n 0, 1) := by decide +kernel
theorem dd_P_shift_13 : decode bb_P_shift 13 = .ok (.getfield 9, 3) := by decide +kernel
theorem dd_P_shift_16 : decode bb_P_shift 16 = .ok (.iload_n 1, 1) := by decide +kernel
theorem dd_P_shift_17 : decode bb_P_shift 17 = .ok (.iconst 0, 1) := by decide +kernel
theorem dd_P_shift_18 : decode bb_P_shift 18 = .ok (.iastore, 1) := by decide +kernel
theorem dd_P_shift_19 : decode bb_P_shift 19 = .ok (.return_, 1) := by decide +kernel
abbrev ty_P_shift : Type := (Nat → Int32)
noncomputable def fn_P_shift (sq : Nat → Int32) (a1 : Int32) (a2 : Int32) : Option ty_P_shift := qq_ck (qq_in a1 64) <| qq_ck (qq_in a2 64) <| qq_let (upd sq a2.toNatClampNeg (sq a1.toNatClampNeg)) fun sq_3 => qq_ck (qq_in a1 64) <| qq_let (upd sq_3 a1.toNatClampNeg 0) fun sq_5 => some sq_5
abbrev rm_P_shift : Room := { frames := 0, cells := 0, slots := 0, locals := 0 }
set_option maxHeartbeats 4000000 in
set_option maxRecDepth 100000 in
theorem ct_P_shift (l : Launch) (dC : Nat → ClassId) (dI : Nat → Nat → Nat) (cI cL cR : ClassId) (oP osq okg : Nat) (sd : Int32) (rt : Int32) (ps : Int32) (sq : Nat → Int32) (kg : Nat → Int32) (a1 : Int32) (a2 : Int32) {sq' : Nat → Int32} (hf : fn_P_shift sq a1 a2 = some sq') : qq_det l yy_P_shift (ww_of yy_P_shift bb_P_shift 3 none) rm_P_shift (dC, dI) (qq_ty cI cL cR) [.ref oP, .int a1, .int a2] [(oP, .inr (1, [.ref osq, .ref okg, .int sd, .int rt, .int ps])), (osq, .inl (cI, 64, .inl sq)), (okg, .inl (cI, 2, .inl kg))] none [(oP, .inr (1, [.ref osq, .ref okg, .int sd, .int rt, .int ps])), (osq, .inl (cI, 64, .inl sq')), (okg, .inl (cI, 2, .inl kg))] := by
  refine qq_of (own := RR_P) (by decide) rfl (Nat.le_of_ble_eq_true rfl) ?_
  intro p e s m below meth c A Q ls hx hb hml hr hlocks hown hts hK hA hT hN hP hD hS hl hQ
  have hl : lv_has ls 3 [(0, .ref oP), (1, .int a1), (2, .int a2)] := hl
  rw [fn_P_shift] at hf
  refine lv_aload_n hx hb dd_P_shift_0 rfl (lv_at hl 0 rfl) ?_
  refine va_get (D := (dC, dI)) (ci := 1) (v := .ref osq) (C := RR_P) (T := FF_P) (N := 5) hx hb hts uu_P hown hK hP 0 rfl rfl 0 (by decide) (hts _ mm_11) (fun _ h9 => h9) rfl dd_P_shift_1 ?_
  refine lv_iload_n hx hb dd_P_shift_4 rfl (lv_at hl 2 rfl) ?_
  refine lv_aload_n hx hb dd_P_shift_5 rfl (lv_at hl 0 rfl) ?_
  refine va_get (D := (dC, dI)) (ci := 1) (v := .ref osq) (C := RR_P) (T := FF_P) (N := 5) hx hb hts uu_P hown hK hP 0 rfl rfl 0 (by decide) (hts _ mm_11) (fun _ h9 => h9) rfl dd_P_shift_6 ?_
  refine lv_iload_n hx hb dd_P_shift_9 rfl (lv_at hl 1 rfl) ?_
  obtain ⟨hi1, hf⟩ := qq_ckE hf
  refine va_iald (D := (dC, dI)) (f := sq) (n := 64) (cA := cI) hx hb hK hP 1 0 rfl rfl (qq_inE hi1) dd_P_shift_10 ?_
  obtain ⟨hi2, hf⟩ := qq_ckE hf
  refine va_iast (D := (dC, dI)) (f := sq) (n := 64) (cA := cI) hx hb hK hP hD hS 1 0 rfl rfl (qq_inE hi2) dd_P_shift_11 (fun H locs hP hD hS => ?_)
  obtain ⟨sq_3, esq_3⟩ : ∃ z, z = upd sq a2.toNatClampNeg (sq a1.toNatClampNeg) := ⟨_, rfl⟩
  replace hf := qq_lt esq_3 hf
  have hP : va_P (dC, dI) classes [(oP, .inr (1, [.ref osq, .ref okg, .int sd, .int rt, .int ps])), (osq, .inl (cI, 64, .inl sq_3)), (okg, .inl (cI, 2, .inl kg))] H := by rw [esq_3]; exact hP
  have hD : va_D A [(oP, .inr (1, [.ref osq, .ref okg, .int sd, .int rt, .int ps])), (osq, .inl (cI, 64, .inl sq_3)), (okg, .inl (cI, 2, .inl kg))] := by rw [esq_3]; exact hD
  refine lv_aload_n hx hb dd_P_shift_12 rfl (lv_at hl 0 rfl) ?_
  refine va_get (D := (dC, dI)) (ci := 1) (v := .ref osq) (C := RR_P) (T := FF_P) (N := 5) hx hb hts uu_P hown hK hP 0 rfl rfl 0 (by decide) (hts _ mm_11) (fun _ h9 => h9) rfl dd_P_shift_13 ?_
  refine lv_iload_n hx hb dd_P_shift_16 rfl (lv_at hl 1 rfl) ?_
  refine lv_iconst (v := 0) hx hb dd_P_shift_17 (by decide) ?_
  obtain ⟨hi4, hf⟩ := qq_ckE hf
  refine va_iast (D := (dC, dI)) (f := sq_3) (n := 64) (cA := cI) hx hb hK hP hD hS 1 0 rfl rfl (qq_inE hi4) dd_P_shift_18 (fun H locs hP hD hS => ?_)
  obtain ⟨sq_5, esq_5⟩ : ∃ z, z = upd sq_3 a1.toNatClampNeg 0 := ⟨_, rfl⟩
  replace hf := qq_lt esq_5 hf
  have hP : va_P (dC, dI) classes [(oP, .inr (1, [.ref osq, .ref okg, .int sd, .int rt, .int ps])), (osq, .inl (cI, 64, .inl sq_5)), (okg, .inl (cI, 2, .inl kg))] H := by rw [esq_5]; exact hP
  have hD : va_D A [(oP, .inr (1, [.ref osq, .ref okg, .int sd, .int rt, .int ps])), (osq, .inl (cI, 64, .inl sq_5)), (okg, .inl (cI, 2, .inl kg))] := by rw [esq_5]; exact hD
  cases hf
  exact qq_vret hx hb hr hlocks hQ hP hD hK hS dd_P_shift_19
theorem dd_P_rightsTiedTo_0 : decode bb_P_rightsTiedTo 0 = .ok (.iload_n 0, 1) := by decide +kernel
theorem dd_P_rightsTiedTo_1 : decode bb_P_rightsTiedTo 1 = .ok (.lookupswitch 73 #[(0, 66), (4, 59), (7, 64), (56, 70), (60, 61), (63, 68)], 59) := by decide +kernel
theorem dd_P_rightsTiedTo_60 : decode bb_P_rightsTiedTo 60 = .ok (.iconst 3, 1) := by decide +kernel
theorem dd_P_rightsTiedTo_61 : decode bb_P_rightsTiedTo 61 = .ok (.ireturn, 1) := by decide +kernel
theorem dd_P_rightsTiedTo_62 : decode bb_P_rightsTiedTo 62 = .ok (.bipush 12, 2) := by decide +kernel
theorem dd_P_rightsTiedTo_64 : decode bb_P_rightsTiedTo 64 = .ok (.ireturn, 1) := by decide +kernel
theorem dd_P_rightsTiedTo_65 : decode bb_P_rightsTiedTo 65 = .ok (.iconst 1, 1) := by decide +kernel
theorem dd_P_rightsTiedTo_66 : decode bb_P_rightsTiedTo 66 = .ok (.ireturn, 1) := by decide +kernel
theorem dd_P_rightsTiedTo_67 : decode bb_P_rightsTiedTo 67 = .ok (.iconst 2, 1) := by decide +kernel
theorem dd_P_rightsTiedTo_68 : decode bb_P_rightsTiedTo 68 = .ok (.ireturn, 1) := by decide +kernel
theorem dd_P_rightsTiedTo_69 : decode bb_P_rightsTiedTo 69 = .ok (.iconst 4, 1) := by decide +kernel
theorem dd_P_rightsTiedTo_70 : decode bb_P_rightsTiedTo 70 = .ok (.ireturn, 1) := by decide +kernel
theorem dd_P_rightsTiedTo_71 : decode bb_P_rightsTiedTo 71 = .ok (.bipush 8, 2) := by decide +kernel
theorem dd_P_rightsTiedTo_73 : decode bb_P_rightsTiedTo 73 = .ok (.ireturn, 1) := by decide +kernel
theorem dd_P_rightsTiedTo_74 : decode bb_P_rightsTiedTo 74 = .ok (.iconst 0, 1) := by decide +kernel
theorem dd_P_rightsTiedTo_75 : decode bb_P_rightsTiedTo 75 = .ok (.ireturn, 1) := by decide +kernel
abbrev ty_P_rightsTiedTo : Type := Int32
noncomputable def fn_P_rightsTiedTo (a0 : Int32) : Option ty_P_rightsTiedTo := if a0 = 0 then (some (2 : Int32)) else (if a0 = 4 then (some (3 : Int32)) else (if a0 = 7 then (some (1 : Int32)) else (if a0 = 56 then (some (8 : Int32)) else (if a0 = 60 then (some (12 : Int32)) else (if a0 = 63 then (some (4 : Int32)) else (some (0 : Int32)))))))
abbrev rm_P_rightsTiedTo : Room := { frames := 0, cells := 0, slots := 0, locals := 0 }
set_option maxHeartbeats 4000000 in
set_option maxRecDepth 100000 in
theorem ct_P_rightsTiedTo (l : Launch) (dC : Nat → ClassId) (dI : Nat → Nat → Nat) (cI cL cR : ClassId) (a0 : Int32) {rr : Int32} (hf : fn_P_rightsTiedTo a0 = some rr) : qq_det l yy_P_rightsTiedTo (ww_of yy_P_rightsTiedTo bb_P_rightsTiedTo 1 (some .int)) rm_P_rightsTiedTo (dC, dI) (qq_ty cI cL cR) [.int a0] [] (some (.int rr)) [] := by
  refine qq_of (own := RR_P) (by decide) rfl (Nat.le_of_ble_eq_true rfl) ?_
  intro p e s m below meth c A Q ls hx hb hml hr hlocks hown hts hK hA hT hN hP hD hS hl hQ
  have hl : lv_has ls 1 [(0, .int a0)] := hl
  rw [fn_P_rightsTiedTo] at hf
  refine lv_iload_n hx hb dd_P_rightsTiedTo_0 rfl (lv_at hl 0 rfl) ?_
  by_cases hk0 : a0 = 0
  · replace hf := qq_t hk0 hf
    refine lv_lookup (tgt := 67) (off := 66) hx hb dd_P_rightsTiedTo_1 (by decide) (by rw [hk0]; decide) (by decide) ?_
    refine lv_iconst (v := 2) hx hb dd_P_rightsTiedTo_67 (by decide) ?_
    cases hf
    exact qq_iret hx hb hr hlocks hQ hP hD hK hS dd_P_rightsTiedTo_68
  · replace hf := qq_f hk0 hf
    by_cases hk1 : a0 = 4
    · replace hf := qq_t hk1 hf
      refine lv_lookup (tgt := 60) (off := 59) hx hb dd_P_rightsTiedTo_1 (by decide) (by rw [hk1]; decide) (by decide) ?_
      refine lv_iconst (v := 3) hx hb dd_P_rightsTiedTo_60 (by decide) ?_
      cases hf
      exact qq_iret hx hb hr hlocks hQ hP hD hK hS dd_P_rightsTiedTo_61
    · replace hf := qq_f hk1 hf
      by_cases hk2 : a0 = 7
      · replace hf := qq_t hk2 hf
        refine lv_lookup (tgt := 65) (off := 64) hx hb dd_P_rightsTiedTo_1 (by decide) (by rw [hk2]; decide) (by decide) ?_
        refine lv_iconst (v := 1) hx hb dd_P_rightsTiedTo_65 (by decide) ?_
        cases hf
        exact qq_iret hx hb hr hlocks hQ hP hD hK hS dd_P_rightsTiedTo_66
      · replace hf := qq_f hk2 hf
        by_cases hk3 : a0 = 56
        · replace hf := qq_t hk3 hf
          refine lv_lookup (tgt := 71) (off := 70) hx hb dd_P_rightsTiedTo_1 (by decide) (by rw [hk3]; decide) (by decide) ?_
          refine lv_bipush (v := 8) hx hb dd_P_rightsTiedTo_71 (by decide) ?_
          cases hf
          exact qq_iret hx hb hr hlocks hQ hP hD hK hS dd_P_rightsTiedTo_73
        · replace hf := qq_f hk3 hf
          by_cases hk4 : a0 = 60
          · replace hf := qq_t hk4 hf
            refine lv_lookup (tgt := 62) (off := 61) hx hb dd_P_rightsTiedTo_1 (by decide) (by rw [hk4]; decide) (by decide) ?_
            refine lv_bipush (v := 12) hx hb dd_P_rightsTiedTo_62 (by decide) ?_
            cases hf
            exact qq_iret hx hb hr hlocks hQ hP hD hK hS dd_P_rightsTiedTo_64
          · replace hf := qq_f hk4 hf
            by_cases hk5 : a0 = 63
            · replace hf := qq_t hk5 hf
              refine lv_lookup (tgt := 69) (off := 68) hx hb dd_P_rightsTiedTo_1 (by decide) (by rw [hk5]; decide) (by decide) ?_
              refine lv_iconst (v := 4) hx hb dd_P_rightsTiedTo_69 (by decide) ?_
              cases hf
              exact qq_iret hx hb hr hlocks hQ hP hD hK hS dd_P_rightsTiedTo_70
            · replace hf := qq_f hk5 hf
              refine lv_lookup (tgt := 74) (off := 73) hx hb dd_P_rightsTiedTo_1 (by decide) (show Op.lookupswitch.offset [(0, 66), (4, 59), (7, 64), (56, 70), (60, 61), (63, 68)] 73 _ = _ from ((lv_osw hk0 (by decide)).trans ((lv_osw hk1 (by decide)).trans ((lv_osw hk2 (by decide)).trans ((lv_osw hk3 (by decide)).trans ((lv_osw hk4 (by decide)).trans ((lv_osw hk5 (by decide)).trans rfl))))))) (by decide) ?_
              refine lv_iconst (v := 0) hx hb dd_P_rightsTiedTo_74 (by decide) ?_
              cases hf
              exact qq_iret hx hb hr hlocks hQ hP hD hK hS dd_P_rightsTiedTo_75
theorem dd_P_play_0 : decode bb_P_play 0 = .ok (.iload_n 1, 1) := by decide +kernel
theorem dd_P_play_1 : decode bb_P_play 1 = .ok (.bipush 63, 2) := by decide +kernel
theorem dd_P_play_3 : decode bb_P_play 3 = .ok (.iand, 1) := by decide +kernel
theorem dd_P_play_4 : decode bb_P_play 4 = .ok (.istore_n 2, 1) := by decide +kernel
theorem dd_P_play_5 : decode bb_P_play 5 = .ok (.iload_n 1, 1) := by decide +kernel
theorem dd_P_play_6 : decode bb_P_play 6 = .ok (.bipush 6, 2) := by decide +kernel
theorem dd_P_play_8 : decode bb_P_play 8 = .ok (.ishr, 1) := by decide +kernel
theorem dd_P_play_9 : decode bb_P_play 9 = .ok (.bipush 63, 2) := by decide +kernel
theorem dd_P_play_11 : decode bb_P_play 11 = .ok (.iand, 1) := by decide +kernel
theorem dd_P_play_12 : decode bb_P_play 12 = .ok (.istore_n 3, 1) := by decide +kernel
theorem dd_P_play_13 : decode bb_P_play 13 = .ok (.iload_n 1, 1) := by decide +kernel
theorem dd_P_play_14 : decode bb_P_play 14 = .ok (.bipush 12, 2) := by decide +kernel
theorem dd_P_play_16 : decode bb_P_play 16 = .ok (.ishr, 1) := by decide +kernel
theorem dd_P_play_17 : decode bb_P_play 17 = .ok (.istore 4, 2) := by decide +kernel
theorem dd_P_play_19 : decode bb_P_play 19 = .ok (.aload_n 0, 1) := by decide +kernel
theorem dd_P_play_20 : decode bb_P_play 20 = .ok (.getfield 9, 3) := by decide +kernel
theorem dd_P_play_23 : decode bb_P_play 23 = .ok (.iload_n 3, 1) := by decide +kernel
theorem dd_P_play_24 : decode bb_P_play 24 = .ok (.iaload, 1) := by decide +kernel
theorem dd_P_play_25 : decode bb_P_play 25 = .ok (.aload_n 0, 1) := by decide +kernel
theorem dd_P_play_26 : decode bb_P_play 26 = .ok (.getfield 147, 3) := by decide +kernel
theorem dd_P_play_29 : decode bb_P_play 29 = .ok (.iconst 4, 1) := by decide +kernel
theorem dd_P_play_30 : decode bb_P_play 30 = .ok (.ishl, 1) := by decide +kernel
theorem dd_P_play_31 : decode bb_P_play 31 = .ok (.ior, 1) := by decide +kernel
theorem dd_P_play_32 : decode bb_P_play 32 = .ok (.aload_n 0, 1) := by decide +kernel
theorem dd_P_play_33 : decode bb_P_play 33 = .ok (.getfield 134, 3) := by decide +kernel
theorem dd_P_play_36 : decode bb_P_play 36 = .ok (.iconst 1, 1) := by decide +kernel
theorem dd_P_play_37 : decode bb_P_play 37 = .ok (.iadd, 1) := by decide +kernel
theorem dd_P_play_38 : decode bb_P_play 38 = .ok (.bipush 8, 2) := by decide +kernel
theorem dd_P_play_40 : decode bb_P_play 40 = .ok (.ishl, 1) := by decide +kernel
theorem dd_P_play_41 : decode bb_P_play 41 = .ok (.ior, 1) := by decide +kernel
theorem dd_P_play_42 : decode bb_P_play 42 = .ok (.istore 5, 2) := by decide +kernel
theorem dd_P_play_44 : decode bb_P_play 44 = .ok (.aload_n 0, 1) := by decide +kernel
theorem dd_P_play_45 : decode bb_P_play 45 = .ok (.getfield 9, 3) := by decide +kernel
theorem dd_P_play_48 : decode bb_P_play 48 = .ok (.iload_n 2, 1) := by decide +kernel
theorem dd_P_play_49 : decode bb_P_play 49 = .ok (.iaload, 1) := by decide +kernel
theorem dd_P_play_50 : decode bb_P_play 50 = .ok (.bipush 6, 2) := by decide +kernel
theorem dd_P_play_52 : decode bb_P_play 52 = .ok (.aload_n 0, 1) := by decide +kernel
theorem dd_P_play_53 : decode bb_P_play 53 = .ok (.getfield 68, 3) := by decide +kernel
theorem dd_P_play_56 : decode bb_P_play 56 = .ok (.imul, 1) := by decide +kernel
theorem dd_P_play_57 : decode bb_P_play 57 = .ok (.isub, 1) := by decide +kernel
theorem dd_P_play_58 : decode bb_P_play 58 = .ok (.istore 6, 2) := by decide +kernel
theorem dd_P_play_60 : decode bb_P_play 60 = .ok (.iload 6, 2) := by decide +kernel
theorem dd_P_play_62 : decode bb_P_play 62 = .ok (.iconst 1, 1) := by decide +kernel
theorem dd_P_play_63 : decode bb_P_play 63 = .ok (.if_icmp .ne 34, 3) := by decide +kernel
theorem dd_P_play_66 : decode bb_P_play 66 = .ok (.iload_n 2, 1) := by decide +kernel
theorem dd_P_play_67 : decode bb_P_play 67 = .ok (.bipush 8, 2) := by decide +kernel
theorem dd_P_play_69 : decode bb_P_play 69 = .ok (.irem, 1) := by decide +kernel
theorem dd_P_play_70 : decode bb_P_play 70 = .ok (.iload_n 3, 1) := by decide +kernel
theorem dd_P_play_71 : decode bb_P_play 71 = .ok (.bipush 8, 2) := by decide +kernel
theorem dd_P_play_73 : decode bb_P_play 73 = .ok (.irem, 1) := by decide +kernel
theorem dd_P_play_74 : decode bb_P_play 74 = .ok (.if_icmp .eq 23, 3) := by decide +kernel
theorem dd_P_play_77 : decode bb_P_play 77 = .ok (.aload_n 0, 1) := by decide +kernel
theorem dd_P_play_78 : decode bb_P_play 78 = .ok (.getfield 9, 3) := by decide +kernel
theorem dd_P_play_81 : decode bb_P_play 81 = .ok (.iload_n 3, 1) := by decide +kernel
theorem dd_P_play_82 : decode bb_P_play 82 = .ok (.iaload, 1) := by decide +kernel
theorem dd_P_play_83 : decode bb_P_play 83 = .ok (.ifCond .ne 14, 3) := by decide +kernel
theorem dd_P_play_86 : decode bb_P_play 86 = .ok (.aload_n 0, 1) := by decide +kernel
theorem dd_P_play_87 : decode bb_P_play 87 = .ok (.getfield 9, 3) := by decide +kernel
theorem dd_P_play_90 : decode bb_P_play 90 = .ok (.iload_n 2, 1) := by decide +kernel
theorem dd_P_play_91 : decode bb_P_play 91 = .ok (.iload_n 3, 1) := by decide +kernel
theorem dd_P_play_92 : decode bb_P_play 92 = .ok (.invokestatic 150, 3) := by decide +kernel
theorem dd_P_play_95 : decode bb_P_play 95 = .ok (.iconst 0, 1) := by decide +kernel
theorem dd_P_play_96 : decode bb_P_play 96 = .ok (.iastore, 1) := by decide +kernel
theorem dd_P_play_97 : decode bb_P_play 97 = .ok (.aload_n 0, 1) := by decide +kernel
theorem dd_P_play_98 : decode bb_P_play 98 = .ok (.getfield 9, 3) := by decide +kernel
theorem dd_P_play_101 : decode bb_P_play 101 = .ok (.iload_n 3, 1) := by decide +kernel
theorem dd_P_play_102 : decode bb_P_play 102 = .ok (.iload 4, 2) := by decide +kernel
theorem dd_P_play_104 : decode bb_P_play 104 = .ok (.ifCond .ne 12, 3) := by decide +kernel
theorem dd_P_play_107 : decode bb_P_play 107 = .ok (.aload_n 0, 1) := by decide +kernel
theorem dd_P_play_108 : decode bb_P_play 108 = .ok (.getfield 9, 3) := by decide +kernel
theorem dd_P_play_111 : decode bb_P_play 111 = .ok (.iload_n 2, 1) := by decide +kernel
theorem dd_P_play_112 : decode bb_P_play 112 = .ok (.iaload, 1) := by decide +kernel
theorem dd_P_play_113 : decode bb_P_play 113 = .ok (.goto 13, 3) := by decide +kernel
theorem dd_P_play_116 : decode bb_P_play 116 = .ok (.iload 4, 2) := by decide +kernel
theorem dd_P_play_118 : decode bb_P_play 118 = .ok (.bipush 6, 2) := by decide +kernel
theorem dd_P_play_120 : decode bb_P_play 120 = .ok (.aload_n 0, 1) := by decide +kernel
theorem dd_P_play_121 : decode bb_P_play 121 = .ok (.getfield 68, 3) := by decide +kernel
theorem dd_P_play_124 : decode bb_P_play 124 = .ok (.imul, 1) := by decide +kernel
theorem dd_P_play_125 : decode bb_P_play 125 = .ok (.iadd, 1) := by decide +kernel
theorem dd_P_play_126 : decode bb_P_play 126 = .ok (.iastore, 1) := by decide +kernel
theorem dd_P_play_127 : decode bb_P_play 127 = .ok (.aload_n 0, 1) := by decide +kernel
theorem dd_P_play_128 : decode bb_P_play 128 = .ok (.getfield 9, 3) := by decide +kernel
theorem dd_P_play_131 : decode bb_P_play 131 = .ok (.iload_n 2, 1) := by decide +kernel
theorem dd_P_play_132 : decode bb_P_play 132 = .ok (.iconst 0, 1) := by decide +kernel
theorem dd_P_play_133 : decode bb_P_play 133 = .ok (.iastore, 1) := by decide +kernel
theorem dd_P_play_134 : decode bb_P_play 134 = .ok (.iload 6, 2) := by decide +kernel
theorem dd_P_play_136 : decode bb_P_play 136 = .ok (.bipush 6, 2) := by decide +kernel
theorem dd_P_play_138 : decode bb_P_play 138 = .ok (.if_icmp .ne 35, 3) := by decide +kernel
theorem dd_P_play_141 : decode bb_P_play 141 = .ok (.aload_n 0, 1) := by decide +kernel
theorem dd_P_play_142 : decode bb_P_play 142 = .ok (.getfield 15, 3) := by decide +kernel
theorem dd_P_play_145 : decode bb_P_play 145 = .ok (.aload_n 0, 1) := by decide +kernel
theorem dd_P_play_146 : decode bb_P_play 146 = .ok (.getfield 68, 3) := by decide +kernel
theorem dd_P_play_149 : decode bb_P_play 149 = .ok (.iload_n 3, 1) := by decide +kernel
theorem dd_P_play_150 : decode bb_P_play 150 = .ok (.iastore, 1) := by decide +kernel
theorem dd_P_play_151 : decode bb_P_play 151 = .ok (.iload_n 2, 1) := by decide +kernel
theorem dd_P_play_152 : decode bb_P_play 152 = .ok (.iload_n 3, 1) := by decide +kernel
theorem dd_P_play_153 : decode bb_P_play 153 = .ok (.invokestatic 153, 3) := by decide +kernel
theorem dd_P_play_156 : decode bb_P_play 156 = .ok (.ifCond .eq 17, 3) := by decide +kernel
theorem dd_P_play_159 : decode bb_P_play 159 = .ok (.aload_n 0, 1) := by decide +kernel
theorem dd_P_play_160 : decode bb_P_play 160 = .ok (.iload_n 2, 1) := by decide +kernel
theorem dd_P_play_161 : decode bb_P_play 161 = .ok (.iload_n 3, 1) := by decide +kernel
theorem dd_P_play_162 : decode bb_P_play 162 = .ok (.invokestatic 156, 3) := by decide +kernel
theorem dd_P_play_165 : decode bb_P_play 165 = .ok (.iload_n 2, 1) := by decide +kernel
theorem dd_P_play_166 : decode bb_P_play 166 = .ok (.iload_n 3, 1) := by decide +kernel
theorem dd_P_play_167 : decode bb_P_play 167 = .ok (.iadd, 1) := by decide +kernel
theorem dd_P_play_168 : decode bb_P_play 168 = .ok (.iconst 2, 1) := by decide +kernel
theorem dd_P_play_169 : decode bb_P_play 169 = .ok (.idiv, 1) := by decide +kernel
theorem dd_P_play_170 : decode bb_P_play 170 = .ok (.invokevirtual 159, 3) := by decide +kernel
theorem dd_P_play_173 : decode bb_P_play 173 = .ok (.aload_n 0, 1) := by decide +kernel
theorem dd_P_play_174 : decode bb_P_play 174 = .ok (.dup, 1) := by decide +kernel
theorem dd_P_play_175 : decode bb_P_play 175 = .ok (.getfield 147, 3) := by decide +kernel
theorem dd_P_play_178 : decode bb_P_play 178 = .ok (.iload_n 2, 1) := by decide +kernel
theorem dd_P_play_179 : decode bb_P_play 179 = .ok (.invokestatic 162, 3) := by decide +kernel
theorem dd_P_play_182 : decode bb_P_play 182 = .ok (.iload_n 3, 1) := by decide +kernel
theorem dd_P_play_183 : decode bb_P_play 183 = .ok (.invokestatic 162, 3) := by decide +kernel
theorem dd_P_play_186 : decode bb_P_play 186 = .ok (.ior, 1) := by decide +kernel
theorem dd_P_play_187 : decode bb_P_play 187 = .ok (.iconst (-1), 1) := by decide +kernel
theorem dd_P_play_188 : decode bb_P_play 188 = .ok (.ixor, 1) := by decide +kernel
theorem dd_P_play_189 : decode bb_P_play 189 = .ok (.iand, 1) := by decide +kernel
theorem dd_P_play_190 : decode bb_P_play 190 = .ok (.putfield 147, 3) := by decide +kernel
theorem dd_P_play_193 : decode bb_P_play 193 = .ok (.aload_n 0, 1) := by decide +kernel
theorem dd_P_play_194 : decode bb_P_play 194 = .ok (.iload 6, 2) := by decide +kernel
theorem dd_P_play_196 : decode bb_P_play 196 = .ok (.iconst 1, 1) := by decide +kernel
theorem dd_P_play_197 : decode bb_P_play 197 = .ok (.if_icmp .ne 21, 3) := by decide +kernel
theorem dd_P_play_200 : decode bb_P_play 200 = .ok (.iload_n 3, 1) := by decide +kernel
theorem dd_P_play_201 : decode bb_P_play 201 = .ok (.iload_n 2, 1) := by decide +kernel
theorem dd_P_play_202 : decode bb_P_play 202 = .ok (.isub, 1) := by decide +kernel
theorem dd_P_play_203 : decode bb_P_play 203 = .ok (.invokestatic 165, 3) := by decide +kernel
theorem dd_P_play_206 : decode bb_P_play 206 = .ok (.bipush 16, 2) := by decide +kernel
theorem dd_P_play_208 : decode bb_P_play 208 = .ok (.if_icmp .ne 10, 3) := by decide +kernel
theorem dd_P_play_211 : decode bb_P_play 211 = .ok (.iload_n 2, 1) := by decide +kernel
theorem dd_P_play_212 : decode bb_P_play 212 = .ok (.bipush 8, 2) := by decide +kernel
theorem dd_P_play_214 : decode bb_P_play 214 = .ok (.irem, 1) := by decide +kernel
theorem dd_P_play_215 : decode bb_P_play 215 = .ok (.goto 4, 3) := by decide +kernel
theorem dd_P_play_218 : decode bb_P_play 218 = .ok (.iconst (-1), 1) := by decide +kernel
theorem dd_P_play_219 : decode bb_P_play 219 = .ok (.putfield 134, 3) := by decide +kernel
theorem dd_P_play_222 : decode bb_P_play 222 = .ok (.aload_n 0, 1) := by decide +kernel
theorem dd_P_play_223 : decode bb_P_play 223 = .ok (.iconst 1, 1) := by decide +kernel
theorem dd_P_play_224 : decode bb_P_play 224 = .ok (.aload_n 0, 1) := by decide +kernel
theorem dd_P_play_225 : decode bb_P_play 225 = .ok (.getfield 68, 3) := by decide +kernel
theorem dd_P_play_228 : decode bb_P_play 228 = .ok (.isub, 1) := by decide +kernel
theorem dd_P_play_229 : decode bb_P_play 229 = .ok (.putfield 68, 3) := by decide +kernel
theorem dd_P_play_232 : decode bb_P_play 232 = .ok (.iload 5, 2) := by decide +kernel
theorem dd_P_play_234 : decode bb_P_play 234 = .ok (.ireturn, 1) := by decide +kernel
abbrev ty_P_play : Type := Int32 × Int32 × Int32 × Int32 × (Nat → Int32) × (Nat → Int32)
noncomputable def bk_P_play_219 (a1 : Int32) (sd : Int32) (rt : Int32) (ps : Int32) (sq : Nat → Int32) (kg : Nat → Int32) (x5 : Int32) (s1 : Int32) : Option ty_P_play := qq_let (1 - sd) fun v1001 => some (x5, v1001, rt, s1, sq, kg)
noncomputable def bk_P_play_218 (a1 : Int32) (sd : Int32) (rt : Int32) (ps : Int32) (sq : Nat → Int32) (kg : Nat → Int32) (x5 : Int32) : Option ty_P_play := bk_P_play_219 a1 sd rt ps sq kg x5 (-1)
noncomputable def bk_P_play_173 (a1 : Int32) (sd : Int32) (rt : Int32) (ps : Int32) (sq : Nat → Int32) (kg : Nat → Int32) (x2 : Int32) (x3 : Int32) (x5 : Int32) (x6 : Int32) : Option ty_P_play := (fn_P_rightsTiedTo x2).bind fun r3001 => (fn_P_rightsTiedTo x3).bind fun r3002 => qq_let (rt &&& ((r3001 ||| r3002) ^^^ (-1))) fun v3003 => if x6 = 1 then (if (if 0 ≤ (x3 - x2) then (x3 - x2) else 0 - (x3 - x2)) = 16 then (bk_P_play_219 a1 sd v3003 ps sq kg x5 (x2 - x2 / 8 * 8)) else (bk_P_play_218 a1 sd v3003 ps sq kg x5)) else (bk_P_play_218 a1 sd v3003 ps sq kg x5)
noncomputable def bk_P_play_126 (a1 : Int32) (sd : Int32) (rt : Int32) (ps : Int32) (sq : Nat → Int32) (kg : Nat → Int32) (x2 : Int32) (x3 : Int32) (x5 : Int32) (x6 : Int32) (s1 : Int32) (s2 : Int32) : Option ty_P_play := qq_ck (qq_in s1 64) <| qq_let (upd sq s1.toNatClampNeg s2) fun sq_4002 => qq_ck (qq_in x2 64) <| qq_let (upd sq_4002 x2.toNatClampNeg 0) fun sq_4004 => if x6 = 6 then (qq_ck (qq_in sd 2) <| qq_let (upd kg sd.toNatClampNeg x3) fun kg_4006 => (fn_P_isCastling x2 x3).bind fun r4007 => if r4007 = 0 then (bk_P_play_173 a1 sd rt ps sq_4004 kg_4006 x2 x3 x5 x6) else ((fn_P_castlingCorner x2 x3).bind fun r4008 => (fn_P_shift sq_4004 r4008 ((x2 + x3) / 2)).bind fun sq_4009 => bk_P_play_173 a1 sd rt ps sq_4009 kg_4006 x2 x3 x5 x6)) else (bk_P_play_173 a1 sd rt ps sq_4004 kg x2 x3 x5 x6)
noncomputable def bk_P_play_97 (a1 : Int32) (sd : Int32) (rt : Int32) (ps : Int32) (sq : Nat → Int32) (kg : Nat → Int32) (x2 : Int32) (x3 : Int32) (x4 : Int32) (x5 : Int32) (x6 : Int32) : Option ty_P_play := if x4 = 0 then (qq_ck (qq_in x2 64) <| bk_P_play_126 a1 sd rt ps sq kg x2 x3 x5 x6 x3 (sq x2.toNatClampNeg)) else (bk_P_play_126 a1 sd rt ps sq kg x2 x3 x5 x6 x3 (x4 + (6 * sd)))
noncomputable def fn_P_play (sd : Int32) (rt : Int32) (ps : Int32) (sq : Nat → Int32) (kg : Nat → Int32) (a1 : Int32) : Option ty_P_play := qq_let (a1 &&& 63) fun v1 => qq_let ((a1 >>> (6 &&& 31)) &&& 63) fun v2 => qq_let (a1 >>> (12 &&& 31)) fun v3 => qq_ck (qq_in v2 64) <| qq_let (((sq v2.toNatClampNeg) ||| (rt <<< (4 &&& 31))) ||| ((ps + 1) <<< (8 &&& 31))) fun v5 => qq_ck (qq_in v1 64) <| qq_let ((sq v1.toNatClampNeg) - (6 * sd)) fun v7 => if v7 = 1 then (if (v1 - v1 / 8 * 8) = (v2 - v2 / 8 * 8) then (bk_P_play_97 a1 sd rt ps sq kg v1 v2 v3 v5 v7) else (qq_ck (qq_in v2 64) <| if (sq v2.toNatClampNeg) = 0 then ((fn_P_besideOf v1 v2).bind fun r9 => qq_ck (qq_in r9 64) <| qq_let (upd sq r9.toNatClampNeg 0) fun sq_11 => bk_P_play_97 a1 sd rt ps sq_11 kg v1 v2 v3 v5 v7) else (bk_P_play_97 a1 sd rt ps sq kg v1 v2 v3 v5 v7))) else (bk_P_play_97 a1 sd rt ps sq kg v1 v2 v3 v5 v7)
abbrev rm_P_play : Room := { frames := 2, cells := 0, slots := 0, locals := 42 }
set_option maxHeartbeats 4000000 in
set_option maxRecDepth 100000 in
theorem ct_P_play (l : Launch) (dC : Nat → ClassId) (dI : Nat → Nat → Nat) (cI cL cR : ClassId) (oP osq okg : Nat) (sd : Int32) (rt : Int32) (ps : Int32) (sq : Nat → Int32) (kg : Nat → Int32) (a1 : Int32) {rr : Int32} {sd' : Int32} {rt' : Int32} {ps' : Int32} {sq' : Nat → Int32} {kg' : Nat → Int32} (hf : fn_P_play sd rt ps sq kg a1 = some (rr, sd', rt', ps', sq', kg')) : qq_det l yy_P_play (ww_of yy_P_play bb_P_play 7 (some .int)) rm_P_play (dC, dI) (qq_ty cI cL cR) [.ref oP, .int a1] [(oP, .inr (1, [.ref osq, .ref okg, .int sd, .int rt, .int ps])), (osq, .inl (cI, 64, .inl sq)), (okg, .inl (cI, 2, .inl kg))] (some (.int rr)) [(oP, .inr (1, [.ref osq, .ref okg, .int sd', .int rt', .int ps'])), (osq, .inl (cI, 64, .inl sq')), (okg, .inl (cI, 2, .inl kg'))] := by
  refine qq_of (own := RR_P) (by decide) rfl (Nat.le_of_ble_eq_true rfl) ?_
  intro p e s m below meth c A Q ls hx hb hml hr hlocks hown hts hK hA hT hN hP hD hS hl hQ
  have hl : lv_has ls 7 [(0, .ref oP), (1, .int a1)] := hl
  have hJ219 : ∀ (sd : Int32) (rt : Int32) (ps : Int32) (sq : Nat → Int32) (kg : Nat → Int32) (x5 : Int32) (s1 : Int32) (H : Heap) (locs : List Loc) (ls : Array Slot), lv_has ls 7 [(0, .ref oP), (5, .int x5)] → va_P (dC, dI) classes [(oP, .inr (1, [.ref osq, .ref okg, .int sd, .int rt, .int ps])), (osq, .inl (cI, 64, .inl sq)), (okg, .inl (cI, 2, .inl kg))] H → va_D A [(oP, .inr (1, [.ref osq, .ref okg, .int sd, .int rt, .int ps])), (osq, .inl (cI, 64, .inl sq)), (okg, .inl (cI, 2, .inl kg))] → va_S A s.heap H locs → bk_P_play_219 a1 sd rt ps sq kg x5 s1 = some (rr, sd', rt', ps', sq', kg') → W p l e rm_P_play s m ([.ref oP, .int a1] : List Value).toArray below meth c H locs 0 0 Q (F0 m 219 ls [.int s1, .ref oP]) := by
    intro sd rt ps sq kg x5 s1 H locs ls hl hP hD hS hf
    rw [bk_P_play_219] at hf
    refine va_put (D := (dC, dI)) (ci := 1) (v := .int s1) (ty := .int) (C := RR_P) (T := FF_P) (N := 5) hx hb hts uu_P tt_P tt_P_ok nn_P hown hK hP hD hS 0 rfl rfl 4 (by decide) (hts _ mm_13) (fun _ h9 => h9) rfl (by decide +kernel) rfl rfl (Nat.le_of_ble_eq_true rfl) dd_P_play_219 (fun H locs hP hD hS => ?_)
    have hP : va_P (dC, dI) classes [(oP, .inr (1, [.ref osq, .ref okg, .int sd, .int rt, .int s1])), (osq, .inl (cI, 64, .inl sq)), (okg, .inl (cI, 2, .inl kg))] H := hP
    have hD : va_D A [(oP, .inr (1, [.ref osq, .ref okg, .int sd, .int rt, .int s1])), (osq, .inl (cI, 64, .inl sq)), (okg, .inl (cI, 2, .inl kg))] := hD
    refine lv_aload_n hx hb dd_P_play_222 rfl (lv_at hl 0 rfl) ?_
    refine lv_iconst (v := 1) hx hb dd_P_play_223 (by decide) ?_
    refine lv_aload_n hx hb dd_P_play_224 rfl (lv_at hl 0 rfl) ?_
    refine va_get (D := (dC, dI)) (ci := 1) (v := .int sd) (C := RR_P) (T := FF_P) (N := 5) hx hb hts uu_P hown hK hP 0 rfl rfl 2 (by decide) (hts _ mm_12) (fun _ h9 => h9) rfl dd_P_play_225 ?_
    refine lv_isub hx hb dd_P_play_228 ?_
    refine lv_topi (fun v1001 ev1001 => ?_)
    replace hf := qq_lt ev1001 hf
    refine va_put (D := (dC, dI)) (ci := 1) (v := .int v1001) (ty := .int) (C := RR_P) (T := FF_P) (N := 5) hx hb hts uu_P tt_P tt_P_ok nn_P hown hK hP hD hS 0 rfl rfl 2 (by decide) (hts _ mm_12) (fun _ h9 => h9) rfl (by decide +kernel) rfl rfl (Nat.le_of_ble_eq_true rfl) dd_P_play_229 (fun H locs hP hD hS => ?_)
    have hP : va_P (dC, dI) classes [(oP, .inr (1, [.ref osq, .ref okg, .int v1001, .int rt, .int s1])), (osq, .inl (cI, 64, .inl sq)), (okg, .inl (cI, 2, .inl kg))] H := hP
    have hD : va_D A [(oP, .inr (1, [.ref osq, .ref okg, .int v1001, .int rt, .int s1])), (osq, .inl (cI, 64, .inl sq)), (okg, .inl (cI, 2, .inl kg))] := hD
    refine lv_iload hx hb dd_P_play_232 (lv_at hl 1 rfl) ?_
    cases hf
    exact qq_iret hx hb hr hlocks hQ hP hD hK hS dd_P_play_234
  have hJ218 : ∀ (sd : Int32) (rt : Int32) (ps : Int32) (sq : Nat → Int32) (kg : Nat → Int32) (x5 : Int32) (H : Heap) (locs : List Loc) (ls : Array Slot), lv_has ls 7 [(0, .ref oP), (5, .int x5)] → va_P (dC, dI) classes [(oP, .inr (1, [.ref osq, .ref okg, .int sd, .int rt, .int ps])), (osq, .inl (cI, 64, .inl sq)), (okg, .inl (cI, 2, .inl kg))] H → va_D A [(oP, .inr (1, [.ref osq, .ref okg, .int sd, .int rt, .int ps])), (osq, .inl (cI, 64, .inl sq)), (okg, .inl (cI, 2, .inl kg))] → va_S A s.heap H locs → bk_P_play_218 a1 sd rt ps sq kg x5 = some (rr, sd', rt', ps', sq', kg') → W p l e rm_P_play s m ([.ref oP, .int a1] : List Value).toArray below meth c H locs 0 0 Q (F0 m 218 ls [.ref oP]) := by
    intro sd rt ps sq kg x5 H locs ls hl hP hD hS hf
    rw [bk_P_play_218] at hf
    refine lv_iconst (v := (-1)) hx hb dd_P_play_218 (by decide) ?_
    exact hJ219 sd rt ps sq kg x5 (-1) _ _ _ (lv_sub hl [0, 1] rfl) hP hD hS hf
  have hJ173 : ∀ (sd : Int32) (rt : Int32) (ps : Int32) (sq : Nat → Int32) (kg : Nat → Int32) (x2 : Int32) (x3 : Int32) (x5 : Int32) (x6 : Int32) (H : Heap) (locs : List Loc) (ls : Array Slot), lv_has ls 7 [(0, .ref oP), (2, .int x2), (3, .int x3), (5, .int x5), (6, .int x6)] → va_P (dC, dI) classes [(oP, .inr (1, [.ref osq, .ref okg, .int sd, .int rt, .int ps])), (osq, .inl (cI, 64, .inl sq)), (okg, .inl (cI, 2, .inl kg))] H → va_D A [(oP, .inr (1, [.ref osq, .ref okg, .int sd, .int rt, .int ps])), (osq, .inl (cI, 64, .inl sq)), (okg, .inl (cI, 2, .inl kg))] → va_S A s.heap H locs → bk_P_play_173 a1 sd rt ps sq kg x2 x3 x5 x6 = some (rr, sd', rt', ps', sq', kg') → W p l e rm_P_play s m ([.ref oP, .int a1] : List Value).toArray below meth c H locs 0 0 Q (F0 m 173 ls []) := by
    intro sd rt ps sq kg x2 x3 x5 x6 H locs ls hl hP hD hS hf
    rw [bk_P_play_173] at hf
    refine lv_aload_n hx hb dd_P_play_173 rfl (lv_at hl 0 rfl) ?_
    refine lv_dup hx hb dd_P_play_174 rfl ?_
    refine va_get (D := (dC, dI)) (ci := 1) (v := .int rt) (C := RR_P) (T := FF_P) (N := 5) hx hb hts uu_P hown hK hP 0 rfl rfl 3 (by decide) (hts _ mm_77) (fun _ h9 => h9) rfl dd_P_play_175 ?_
    refine lv_iload_n hx hb dd_P_play_178 rfl (lv_at hl 1 rfl) ?_
    obtain ⟨r3001, hy3001, hf⟩ := qq_bd hf
    refine qq_S (As := [.int x2]) (rest := [.int rt, .ref oP]) (wr := [(oP, .inr (1, [.ref osq, .ref okg, .int sd, .int rt, .int ps])), (osq, .inl (cI, 64, .inl sq)), (okg, .inl (cI, 2, .inl kg))]) (wf := [(oP, .inr (1, [.ref osq, .ref okg, .int sd, .int rt, .int ps])), (osq, .inl (cI, 64, .inl sq)), (okg, .inl (cI, 2, .inl kg))]) ⟨hx, hb, hml, hown, hts⟩ (ct_P_rightsTiedTo l dC dI cI cL cR x2 hy3001) mm_111 mm_112 mm_110 mm_15 hd_P_rightsTiedTo (by decide) qq_00 hP hD hK hS hA hT hN [] [0, 1, 2] [0, 1, 2] rfl rfl rfl (by decide) rfl hl.1 rfl (Nat.le_of_ble_eq_true rfl) dd_P_play_179 (fun H locs hP hD hS => ?_)
    refine W.eq (g2 := F0 m 182 ls [.int r3001, .int rt, .ref oP]) rfl ?_
    refine lv_iload_n hx hb dd_P_play_182 rfl (lv_at hl 2 rfl) ?_
    obtain ⟨r3002, hy3002, hf⟩ := qq_bd hf
    refine qq_S (As := [.int x3]) (rest := [.int r3001, .int rt, .ref oP]) (wr := [(oP, .inr (1, [.ref osq, .ref okg, .int sd, .int rt, .int ps])), (osq, .inl (cI, 64, .inl sq)), (okg, .inl (cI, 2, .inl kg))]) (wf := [(oP, .inr (1, [.ref osq, .ref okg, .int sd, .int rt, .int ps])), (osq, .inl (cI, 64, .inl sq)), (okg, .inl (cI, 2, .inl kg))]) ⟨hx, hb, hml, hown, hts⟩ (ct_P_rightsTiedTo l dC dI cI cL cR x3 hy3002) mm_111 mm_112 mm_110 mm_15 hd_P_rightsTiedTo (by decide) qq_00 hP hD hK hS hA hT hN [] [0, 1, 2] [0, 1, 2] rfl rfl rfl (by decide) rfl hl.1 rfl (Nat.le_of_ble_eq_true rfl) dd_P_play_183 (fun H locs hP hD hS => ?_)
    refine W.eq (g2 := F0 m 186 ls [.int r3002, .int r3001, .int rt, .ref oP]) rfl ?_
    refine lv_ior hx hb dd_P_play_186 ?_
    refine lv_iconst (v := (-1)) hx hb dd_P_play_187 (by decide) ?_
    refine lv_ixor hx hb dd_P_play_188 ?_
    refine lv_iand hx hb dd_P_play_189 ?_
    refine lv_topi (fun v3003 ev3003 => ?_)
    replace hf := qq_lt ev3003 hf
    refine va_put (D := (dC, dI)) (ci := 1) (v := .int v3003) (ty := .int) (C := RR_P) (T := FF_P) (N := 5) hx hb hts uu_P tt_P tt_P_ok nn_P hown hK hP hD hS 0 rfl rfl 3 (by decide) (hts _ mm_77) (fun _ h9 => h9) rfl (by decide +kernel) rfl rfl (Nat.le_of_ble_eq_true rfl) dd_P_play_190 (fun H locs hP hD hS => ?_)
    have hP : va_P (dC, dI) classes [(oP, .inr (1, [.ref osq, .ref okg, .int sd, .int v3003, .int ps])), (osq, .inl (cI, 64, .inl sq)), (okg, .inl (cI, 2, .inl kg))] H := hP
    have hD : va_D A [(oP, .inr (1, [.ref osq, .ref okg, .int sd, .int v3003, .int ps])), (osq, .inl (cI, 64, .inl sq)), (okg, .inl (cI, 2, .inl kg))] := hD
    refine lv_aload_n hx hb dd_P_play_193 rfl (lv_at hl 0 rfl) ?_
    refine lv_iload hx hb dd_P_play_194 (lv_at hl 4 rfl) ?_
    refine lv_iconst (v := 1) hx hb dd_P_play_196 (by decide) ?_
    refine lv_icmp_ne (tgt := 218) hx hb dd_P_play_197 (by decide) (fun hc => ?_) (fun hc => ?_)
    · replace hf := qq_f hc hf
      exact hJ218 sd v3003 ps sq kg x5 _ _ _ (lv_sub hl [0, 3] rfl) hP hD hS hf
    · replace hf := qq_t hc hf
      refine lv_iload_n hx hb dd_P_play_200 rfl (lv_at hl 2 rfl) ?_
      refine lv_iload_n hx hb dd_P_play_201 rfl (lv_at hl 1 rfl) ?_
      refine lv_isub hx hb dd_P_play_202 ?_
      refine va_mabs hx hb (hml.trans hl.1.symm) hown (hts _ mm_107) (hts _ mm_108) (hts _ mm_62) (hts _ mm_109) (by decide) (Nat.le_of_ble_eq_true rfl) (by decide) (by decide) dd_P_play_203 ?_
      refine lv_bipush (v := 16) hx hb dd_P_play_206 (by decide) ?_
      refine lv_icmp_ne (tgt := 218) hx hb dd_P_play_208 (by decide) (fun hc => ?_) (fun hc => ?_)
      · replace hf := qq_f hc hf
        exact hJ218 sd v3003 ps sq kg x5 _ _ _ (lv_sub hl [0, 3] rfl) hP hD hS hf
      · replace hf := qq_t hc hf
        refine lv_iload_n hx hb dd_P_play_211 rfl (lv_at hl 1 rfl) ?_
        refine lv_bipush (v := 8) hx hb dd_P_play_212 (by decide) ?_
        refine lv_irem hx hb dd_P_play_214 (by decide) ?_
        refine lv_goto (tgt := 219) hx hb dd_P_play_215 (by decide) ?_
        exact hJ219 sd v3003 ps sq kg x5 (x2 - x2 / 8 * 8) _ _ _ (lv_sub hl [0, 3] rfl) hP hD hS hf
  have hJ126 : ∀ (sd : Int32) (rt : Int32) (ps : Int32) (sq : Nat → Int32) (kg : Nat → Int32) (x2 : Int32) (x3 : Int32) (x5 : Int32) (x6 : Int32) (s1 : Int32) (s2 : Int32) (H : Heap) (locs : List Loc) (ls : Array Slot), lv_has ls 7 [(0, .ref oP), (2, .int x2), (3, .int x3), (5, .int x5), (6, .int x6)] → va_P (dC, dI) classes [(oP, .inr (1, [.ref osq, .ref okg, .int sd, .int rt, .int ps])), (osq, .inl (cI, 64, .inl sq)), (okg, .inl (cI, 2, .inl kg))] H → va_D A [(oP, .inr (1, [.ref osq, .ref okg, .int sd, .int rt, .int ps])), (osq, .inl (cI, 64, .inl sq)), (okg, .inl (cI, 2, .inl kg))] → va_S A s.heap H locs → bk_P_play_126 a1 sd rt ps sq kg x2 x3 x5 x6 s1 s2 = some (rr, sd', rt', ps', sq', kg') → W p l e rm_P_play s m ([.ref oP, .int a1] : List Value).toArray below meth c H locs 0 0 Q (F0 m 126 ls [.int s2, .int s1, .ref osq]) := by
    intro sd rt ps sq kg x2 x3 x5 x6 s1 s2 H locs ls hl hP hD hS hf
    rw [bk_P_play_126] at hf
    obtain ⟨hi4001, hf⟩ := qq_ckE hf
    refine va_iast (D := (dC, dI)) (f := sq) (n := 64) (cA := cI) hx hb hK hP hD hS 1 0 rfl rfl (qq_inE hi4001) dd_P_play_126 (fun H locs hP hD hS => ?_)
    obtain ⟨sq_4002, esq_4002⟩ : ∃ z, z = upd sq s1.toNatClampNeg s2 := ⟨_, rfl⟩
    replace hf := qq_lt esq_4002 hf
    have hP : va_P (dC, dI) classes [(oP, .inr (1, [.ref osq, .ref okg, .int sd, .int rt, .int ps])), (osq, .inl (cI, 64, .inl sq_4002)), (okg, .inl (cI, 2, .inl kg))] H := by rw [esq_4002]; exact hP
    have hD : va_D A [(oP, .inr (1, [.ref osq, .ref okg, .int sd, .int rt, .int ps])), (osq, .inl (cI, 64, .inl sq_4002)), (okg, .inl (cI, 2, .inl kg))] := by rw [esq_4002]; exact hD
    refine lv_aload_n hx hb dd_P_play_127 rfl (lv_at hl 0 rfl) ?_
    refine va_get (D := (dC, dI)) (ci := 1) (v := .ref osq) (C := RR_P) (T := FF_P) (N := 5) hx hb hts uu_P hown hK hP 0 rfl rfl 0 (by decide) (hts _ mm_11) (fun _ h9 => h9) rfl dd_P_play_128 ?_
    refine lv_iload_n hx hb dd_P_play_131 rfl (lv_at hl 1 rfl) ?_
    refine lv_iconst (v := 0) hx hb dd_P_play_132 (by decide) ?_
    obtain ⟨hi4003, hf⟩ := qq_ckE hf
    refine va_iast (D := (dC, dI)) (f := sq_4002) (n := 64) (cA := cI) hx hb hK hP hD hS 1 0 rfl rfl (qq_inE hi4003) dd_P_play_133 (fun H locs hP hD hS => ?_)
    obtain ⟨sq_4004, esq_4004⟩ : ∃ z, z = upd sq_4002 x2.toNatClampNeg 0 := ⟨_, rfl⟩
    replace hf := qq_lt esq_4004 hf
    have hP : va_P (dC, dI) classes [(oP, .inr (1, [.ref osq, .ref okg, .int sd, .int rt, .int ps])), (osq, .inl (cI, 64, .inl sq_4004)), (okg, .inl (cI, 2, .inl kg))] H := by rw [esq_4004]; exact hP
    have hD : va_D A [(oP, .inr (1, [.ref osq, .ref okg, .int sd, .int rt, .int ps])), (osq, .inl (cI, 64, .inl sq_4004)), (okg, .inl (cI, 2, .inl kg))] := by rw [esq_4004]; exact hD
    refine lv_iload hx hb dd_P_play_134 (lv_at hl 4 rfl) ?_
    refine lv_bipush (v := 6) hx hb dd_P_play_136 (by decide) ?_
    refine lv_icmp_ne (tgt := 173) hx hb dd_P_play_138 (by decide) (fun hc => ?_) (fun hc => ?_)
    · replace hf := qq_f hc hf
      exact hJ173 sd rt ps sq_4004 kg x2 x3 x5 x6 _ _ _ (lv_sub hl [0, 1, 2, 3, 4] rfl) hP hD hS hf
    · replace hf := qq_t hc hf
      refine lv_aload_n hx hb dd_P_play_141 rfl (lv_at hl 0 rfl) ?_
      refine va_get (D := (dC, dI)) (ci := 1) (v := .ref okg) (C := RR_P) (T := FF_P) (N := 5) hx hb hts uu_P hown hK hP 0 rfl rfl 1 (by decide) (hts _ mm_93) (fun _ h9 => h9) rfl dd_P_play_142 ?_
      refine lv_aload_n hx hb dd_P_play_145 rfl (lv_at hl 0 rfl) ?_
      refine va_get (D := (dC, dI)) (ci := 1) (v := .int sd) (C := RR_P) (T := FF_P) (N := 5) hx hb hts uu_P hown hK hP 0 rfl rfl 2 (by decide) (hts _ mm_12) (fun _ h9 => h9) rfl dd_P_play_146 ?_
      refine lv_iload_n hx hb dd_P_play_149 rfl (lv_at hl 2 rfl) ?_
      obtain ⟨hi4005, hf⟩ := qq_ckE hf
      refine va_iast (D := (dC, dI)) (f := kg) (n := 2) (cA := cI) hx hb hK hP hD hS 2 0 rfl rfl (qq_inE hi4005) dd_P_play_150 (fun H locs hP hD hS => ?_)
      obtain ⟨kg_4006, ekg_4006⟩ : ∃ z, z = upd kg sd.toNatClampNeg x3 := ⟨_, rfl⟩
      replace hf := qq_lt ekg_4006 hf
      have hP : va_P (dC, dI) classes [(oP, .inr (1, [.ref osq, .ref okg, .int sd, .int rt, .int ps])), (osq, .inl (cI, 64, .inl sq_4004)), (okg, .inl (cI, 2, .inl kg_4006))] H := by rw [ekg_4006]; exact hP
      have hD : va_D A [(oP, .inr (1, [.ref osq, .ref okg, .int sd, .int rt, .int ps])), (osq, .inl (cI, 64, .inl sq_4004)), (okg, .inl (cI, 2, .inl kg_4006))] := by rw [ekg_4006]; exact hD
      refine lv_iload_n hx hb dd_P_play_151 rfl (lv_at hl 1 rfl) ?_
      refine lv_iload_n hx hb dd_P_play_152 rfl (lv_at hl 2 rfl) ?_
      obtain ⟨r4007, hy4007, hf⟩ := qq_bd hf
      refine qq_S (As := [.int x2, .int x3]) (rest := []) (wr := [(oP, .inr (1, [.ref osq, .ref okg, .int sd, .int rt, .int ps])), (osq, .inl (cI, 64, .inl sq_4004)), (okg, .inl (cI, 2, .inl kg_4006))]) (wf := [(oP, .inr (1, [.ref osq, .ref okg, .int sd, .int rt, .int ps])), (osq, .inl (cI, 64, .inl sq_4004)), (okg, .inl (cI, 2, .inl kg_4006))]) ⟨hx, hb, hml, hown, hts⟩ (ct_P_isCastling l dC dI cI cL cR x2 x3 hy4007) mm_114 mm_115 mm_113 mm_15 hd_P_isCastling (by decide) qq_00 hP hD hK hS hA hT hN [] [0, 1, 2] [0, 1, 2] rfl rfl rfl (by decide) rfl hl.1 rfl (Nat.le_of_ble_eq_true rfl) dd_P_play_153 (fun H locs hP hD hS => ?_)
      refine W.eq (g2 := F0 m 156 ls [.int r4007]) rfl ?_
      refine lv_if_eq (tgt := 173) hx hb dd_P_play_156 (by decide) (fun hc => ?_) (fun hc => ?_)
      · replace hf := qq_t hc hf
        exact hJ173 sd rt ps sq_4004 kg_4006 x2 x3 x5 x6 _ _ _ (lv_sub hl [0, 1, 2, 3, 4] rfl) hP hD hS hf
      · replace hf := qq_f hc hf
        refine lv_aload_n hx hb dd_P_play_159 rfl (lv_at hl 0 rfl) ?_
        refine lv_iload_n hx hb dd_P_play_160 rfl (lv_at hl 1 rfl) ?_
        refine lv_iload_n hx hb dd_P_play_161 rfl (lv_at hl 2 rfl) ?_
        obtain ⟨r4008, hy4008, hf⟩ := qq_bd hf
        refine qq_S (As := [.int x2, .int x3]) (rest := [.ref oP]) (wr := [(oP, .inr (1, [.ref osq, .ref okg, .int sd, .int rt, .int ps])), (osq, .inl (cI, 64, .inl sq_4004)), (okg, .inl (cI, 2, .inl kg_4006))]) (wf := [(oP, .inr (1, [.ref osq, .ref okg, .int sd, .int rt, .int ps])), (osq, .inl (cI, 64, .inl sq_4004)), (okg, .inl (cI, 2, .inl kg_4006))]) ⟨hx, hb, hml, hown, hts⟩ (ct_P_castlingCorner l dC dI cI cL cR x2 x3 hy4008) mm_117 mm_118 mm_116 mm_15 hd_P_castlingCorner (by decide) qq_00 hP hD hK hS hA hT hN [] [0, 1, 2] [0, 1, 2] rfl rfl rfl (by decide) rfl hl.1 rfl (Nat.le_of_ble_eq_true rfl) dd_P_play_162 (fun H locs hP hD hS => ?_)
        refine W.eq (g2 := F0 m 165 ls [.int r4008, .ref oP]) rfl ?_
        refine lv_iload_n hx hb dd_P_play_165 rfl (lv_at hl 1 rfl) ?_
        refine lv_iload_n hx hb dd_P_play_166 rfl (lv_at hl 2 rfl) ?_
        refine lv_iadd hx hb dd_P_play_167 ?_
        refine lv_iconst (v := 2) hx hb dd_P_play_168 (by decide) ?_
        refine lv_idiv hx hb dd_P_play_169 (by decide) ?_
        obtain ⟨sq_4009, hy4009, hf⟩ := qq_bd hf
        refine qq_V (As := [.int r4008, .int ((x2 + x3) / 2)]) (rest := []) (wr := []) (wf := [(oP, .inr (1, [.ref osq, .ref okg, .int sd, .int rt, .int ps])), (osq, .inl (cI, 64, .inl sq_4009)), (okg, .inl (cI, 2, .inl kg_4006))]) ⟨hx, hb, hml, hown, hts⟩ (ct_P_shift l dC dI cI cL cR oP osq okg sd rt ps sq_4004 kg_4006 r4008 ((x2 + x3) / 2) hy4009) mm_120 mm_121 mm_122 mm_119 mm_15 hd_P_shift (by decide) qq_00 hP hD hK hS hA hT hN (q0 := 0) (ci := 1) rfl rfl [0, 1, 2] [] [0, 1, 2] rfl rfl rfl (by decide) rfl hl.1 rfl (Nat.le_of_ble_eq_true rfl) dd_P_play_170 (fun H locs hP hD hS => ?_)
        refine W.eq (g2 := F0 m 173 ls []) rfl ?_
        exact hJ173 sd rt ps sq_4009 kg_4006 x2 x3 x5 x6 _ _ _ (lv_sub hl [0, 1, 2, 3, 4] rfl) hP hD hS hf
  have hJ97 : ∀ (sd : Int32) (rt : Int32) (ps : Int32) (sq : Nat → Int32) (kg : Nat → Int32) (x2 : Int32) (x3 : Int32) (x4 : Int32) (x5 : Int32) (x6 : Int32) (H : Heap) (locs : List Loc) (ls : Array Slot), lv_has ls 7 [(0, .ref oP), (2, .int x2), (3, .int x3), (4, .int x4), (5, .int x5), (6, .int x6)] → va_P (dC, dI) classes [(oP, .inr (1, [.ref osq, .ref okg, .int sd, .int rt, .int ps])), (osq, .inl (cI, 64, .inl sq)), (okg, .inl (cI, 2, .inl kg))] H → va_D A [(oP, .inr (1, [.ref osq, .ref okg, .int sd, .int rt, .int ps])), (osq, .inl (cI, 64, .inl sq)), (okg, .inl (cI, 2, .inl kg))] → va_S A s.heap H locs → bk_P_play_97 a1 sd rt ps sq kg x2 x3 x4 x5 x6 = some (rr, sd', rt', ps', sq', kg') → W p l e rm_P_play s m ([.ref oP, .int a1] : List Value).toArray below meth c H locs 0 0 Q (F0 m 97 ls []) := by
    intro sd rt ps sq kg x2 x3 x4 x5 x6 H locs ls hl hP hD hS hf
    rw [bk_P_play_97] at hf
    refine lv_aload_n hx hb dd_P_play_97 rfl (lv_at hl 0 rfl) ?_
    refine va_get (D := (dC, dI)) (ci := 1) (v := .ref osq) (C := RR_P) (T := FF_P) (N := 5) hx hb hts uu_P hown hK hP 0 rfl rfl 0 (by decide) (hts _ mm_11) (fun _ h9 => h9) rfl dd_P_play_98 ?_
    refine lv_iload_n hx hb dd_P_play_101 rfl (lv_at hl 2 rfl) ?_
    refine lv_iload hx hb dd_P_play_102 (lv_at hl 3 rfl) ?_
    refine lv_if_ne (tgt := 116) hx hb dd_P_play_104 (by decide) (fun hc => ?_) (fun hc => ?_)
    · replace hf := qq_f hc hf
      refine lv_iload hx hb dd_P_play_116 (lv_at hl 3 rfl) ?_
      refine lv_bipush (v := 6) hx hb dd_P_play_118 (by decide) ?_
      refine lv_aload_n hx hb dd_P_play_120 rfl (lv_at hl 0 rfl) ?_
      refine va_get (D := (dC, dI)) (ci := 1) (v := .int sd) (C := RR_P) (T := FF_P) (N := 5) hx hb hts uu_P hown hK hP 0 rfl rfl 2 (by decide) (hts _ mm_12) (fun _ h9 => h9) rfl dd_P_play_121 ?_
      refine lv_imul hx hb dd_P_play_124 ?_
      refine lv_iadd hx hb dd_P_play_125 ?_
      exact hJ126 sd rt ps sq kg x2 x3 x5 x6 x3 (x4 + (6 * sd)) _ _ _ (lv_sub hl [0, 1, 2, 4, 5] rfl) hP hD hS hf
    · replace hf := qq_t hc hf
      refine lv_aload_n hx hb dd_P_play_107 rfl (lv_at hl 0 rfl) ?_
      refine va_get (D := (dC, dI)) (ci := 1) (v := .ref osq) (C := RR_P) (T := FF_P) (N := 5) hx hb hts uu_P hown hK hP 0 rfl rfl 0 (by decide) (hts _ mm_11) (fun _ h9 => h9) rfl dd_P_play_108 ?_
      refine lv_iload_n hx hb dd_P_play_111 rfl (lv_at hl 1 rfl) ?_
      obtain ⟨hi5001, hf⟩ := qq_ckE hf
      refine va_iald (D := (dC, dI)) (f := sq) (n := 64) (cA := cI) hx hb hK hP 1 0 rfl rfl (qq_inE hi5001) dd_P_play_112 ?_
      refine lv_goto (tgt := 126) hx hb dd_P_play_113 (by decide) ?_
      exact hJ126 sd rt ps sq kg x2 x3 x5 x6 x3 (sq x2.toNatClampNeg) _ _ _ (lv_sub hl [0, 1, 2, 4, 5] rfl) hP hD hS hf
  rw [fn_P_play] at hf
  refine lv_iload_n hx hb dd_P_play_0 rfl (lv_at hl 1 rfl) ?_
  refine lv_bipush (v := 63) hx hb dd_P_play_1 (by decide) ?_
  refine lv_iand hx hb dd_P_play_3 ?_
  refine lv_topi (fun v1 ev1 => ?_)
  replace hf := qq_lt ev1 hf
  refine lv_istore_n (lv' := [(2, .int v1), (0, .ref oP), (1, .int a1)]) hx hb dd_P_play_4 rfl hl (by decide) rfl (fun ls hl => ?_)
  refine lv_iload_n hx hb dd_P_play_5 rfl (lv_at hl 2 rfl) ?_
  refine lv_bipush (v := 6) hx hb dd_P_play_6 (by decide) ?_
  refine lv_ishr hx hb dd_P_play_8 ?_
  refine lv_bipush (v := 63) hx hb dd_P_play_9 (by decide) ?_
  refine lv_iand hx hb dd_P_play_11 ?_
  refine lv_topi (fun v2 ev2 => ?_)
  replace hf := qq_lt ev2 hf
  refine lv_istore_n (lv' := [(3, .int v2), (2, .int v1), (0, .ref oP), (1, .int a1)]) hx hb dd_P_play_12 rfl hl (by decide) rfl (fun ls hl => ?_)
  refine lv_iload_n hx hb dd_P_play_13 rfl (lv_at hl 3 rfl) ?_
  refine lv_bipush (v := 12) hx hb dd_P_play_14 (by decide) ?_
  refine lv_ishr hx hb dd_P_play_16 ?_
  refine lv_topi (fun v3 ev3 => ?_)
  replace hf := qq_lt ev3 hf
  refine lv_istore (lv' := [(4, .int v3), (3, .int v2), (2, .int v1), (0, .ref oP), (1, .int a1)]) hx hb dd_P_play_17 hl (by decide) rfl (fun ls hl => ?_)
  refine lv_aload_n hx hb dd_P_play_19 rfl (lv_at hl 3 rfl) ?_
  refine va_get (D := (dC, dI)) (ci := 1) (v := .ref osq) (C := RR_P) (T := FF_P) (N := 5) hx hb hts uu_P hown hK hP 0 rfl rfl 0 (by decide) (hts _ mm_11) (fun _ h9 => h9) rfl dd_P_play_20 ?_
  refine lv_iload_n hx hb dd_P_play_23 rfl (lv_at hl 1 rfl) ?_
  obtain ⟨hi4, hf⟩ := qq_ckE hf
  refine va_iald (D := (dC, dI)) (f := sq) (n := 64) (cA := cI) hx hb hK hP 1 0 rfl rfl (qq_inE hi4) dd_P_play_24 ?_
  refine lv_aload_n hx hb dd_P_play_25 rfl (lv_at hl 3 rfl) ?_
  refine va_get (D := (dC, dI)) (ci := 1) (v := .int rt) (C := RR_P) (T := FF_P) (N := 5) hx hb hts uu_P hown hK hP 0 rfl rfl 3 (by decide) (hts _ mm_77) (fun _ h9 => h9) rfl dd_P_play_26 ?_
  refine lv_iconst (v := 4) hx hb dd_P_play_29 (by decide) ?_
  refine lv_ishl hx hb dd_P_play_30 ?_
  refine lv_ior hx hb dd_P_play_31 ?_
  refine lv_aload_n hx hb dd_P_play_32 rfl (lv_at hl 3 rfl) ?_
  refine va_get (D := (dC, dI)) (ci := 1) (v := .int ps) (C := RR_P) (T := FF_P) (N := 5) hx hb hts uu_P hown hK hP 0 rfl rfl 4 (by decide) (hts _ mm_13) (fun _ h9 => h9) rfl dd_P_play_33 ?_
  refine lv_iconst (v := 1) hx hb dd_P_play_36 (by decide) ?_
  refine lv_iadd hx hb dd_P_play_37 ?_
  refine lv_bipush (v := 8) hx hb dd_P_play_38 (by decide) ?_
  refine lv_ishl hx hb dd_P_play_40 ?_
  refine lv_ior hx hb dd_P_play_41 ?_
  refine lv_topi (fun v5 ev5 => ?_)
  replace hf := qq_lt ev5 hf
  refine lv_istore (lv' := [(5, .int v5), (4, .int v3), (3, .int v2), (2, .int v1), (0, .ref oP), (1, .int a1)]) hx hb dd_P_play_42 hl (by decide) rfl (fun ls hl => ?_)
  refine lv_aload_n hx hb dd_P_play_44 rfl (lv_at hl 4 rfl) ?_
  refine va_get (D := (dC, dI)) (ci := 1) (v := .ref osq) (C := RR_P) (T := FF_P) (N := 5) hx hb hts uu_P hown hK hP 0 rfl rfl 0 (by decide) (hts _ mm_11) (fun _ h9 => h9) rfl dd_P_play_45 ?_
  refine lv_iload_n hx hb dd_P_play_48 rfl (lv_at hl 3 rfl) ?_
  obtain ⟨hi6, hf⟩ := qq_ckE hf
  refine va_iald (D := (dC, dI)) (f := sq) (n := 64) (cA := cI) hx hb hK hP 1 0 rfl rfl (qq_inE hi6) dd_P_play_49 ?_
  refine lv_bipush (v := 6) hx hb dd_P_play_50 (by decide) ?_
  refine lv_aload_n hx hb dd_P_play_52 rfl (lv_at hl 4 rfl) ?_
  refine va_get (D := (dC, dI)) (ci := 1) (v := .int sd) (C := RR_P) (T := FF_P) (N := 5) hx hb hts uu_P hown hK hP 0 rfl rfl 2 (by decide) (hts _ mm_12) (fun _ h9 => h9) rfl dd_P_play_53 ?_
  refine lv_imul hx hb dd_P_play_56 ?_
  refine lv_isub hx hb dd_P_play_57 ?_
  refine lv_topi (fun v7 ev7 => ?_)
  replace hf := qq_lt ev7 hf
  refine lv_istore (lv' := [(6, .int v7), (5, .int v5), (4, .int v3), (3, .int v2), (2, .int v1), (0, .ref oP), (1, .int a1)]) hx hb dd_P_play_58 hl (by decide) rfl (fun ls hl => ?_)
  refine lv_iload hx hb dd_P_play_60 (lv_at hl 0 rfl) ?_
  refine lv_iconst (v := 1) hx hb dd_P_play_62 (by decide) ?_
  refine lv_icmp_ne (tgt := 97) hx hb dd_P_play_63 (by decide) (fun hc => ?_) (fun hc => ?_)
  · replace hf := qq_f hc hf
    exact hJ97 sd rt ps sq kg v1 v2 v3 v5 v7 _ _ _ (lv_sub hl [5, 4, 3, 2, 1, 0] rfl) hP hD hS hf
  · replace hf := qq_t hc hf
    refine lv_iload_n hx hb dd_P_play_66 rfl (lv_at hl 4 rfl) ?_
    refine lv_bipush (v := 8) hx hb dd_P_play_67 (by decide) ?_
    refine lv_irem hx hb dd_P_play_69 (by decide) ?_
    refine lv_iload_n hx hb dd_P_play_70 rfl (lv_at hl 3 rfl) ?_
    refine lv_bipush (v := 8) hx hb dd_P_play_71 (by decide) ?_
    refine lv_irem hx hb dd_P_play_73 (by decide) ?_
    refine lv_icmp_eq (tgt := 97) hx hb dd_P_play_74 (by decide) (fun hc => ?_) (fun hc => ?_)
    · replace hf := qq_t hc hf
      exact hJ97 sd rt ps sq kg v1 v2 v3 v5 v7 _ _ _ (lv_sub hl [5, 4, 3, 2, 1, 0] rfl) hP hD hS hf
    · replace hf := qq_f hc hf
      refine lv_aload_n hx hb dd_P_play_77 rfl (lv_at hl 5 rfl) ?_
      refine va_get (D := (dC, dI)) (ci := 1) (v := .ref osq) (C := RR_P) (T := FF_P) (N := 5) hx hb hts uu_P hown hK hP 0 rfl rfl 0 (by decide) (hts _ mm_11) (fun _ h9 => h9) rfl dd_P_play_78 ?_
      refine lv_iload_n hx hb dd_P_play_81 rfl (lv_at hl 3 rfl) ?_
      obtain ⟨hi8, hf⟩ := qq_ckE hf
      refine va_iald (D := (dC, dI)) (f := sq) (n := 64) (cA := cI) hx hb hK hP 1 0 rfl rfl (qq_inE hi8) dd_P_play_82 ?_
      refine lv_if_ne (tgt := 97) hx hb dd_P_play_83 (by decide) (fun hc => ?_) (fun hc => ?_)
      · replace hf := qq_f hc hf
        exact hJ97 sd rt ps sq kg v1 v2 v3 v5 v7 _ _ _ (lv_sub hl [5, 4, 3, 2, 1, 0] rfl) hP hD hS hf
      · replace hf := qq_t hc hf
        refine lv_aload_n hx hb dd_P_play_86 rfl (lv_at hl 5 rfl) ?_
        refine va_get (D := (dC, dI)) (ci := 1) (v := .ref osq) (C := RR_P) (T := FF_P) (N := 5) hx hb hts uu_P hown hK hP 0 rfl rfl 0 (by decide) (hts _ mm_11) (fun _ h9 => h9) rfl dd_P_play_87 ?_
        refine lv_iload_n hx hb dd_P_play_90 rfl (lv_at hl 4 rfl) ?_
        refine lv_iload_n hx hb dd_P_play_91 rfl (lv_at hl 3 rfl) ?_
        obtain ⟨r9, hy9, hf⟩ := qq_bd hf
        refine qq_S (As := [.int v1, .int v2]) (rest := [.ref osq]) (wr := [(oP, .inr (1, [.ref osq, .ref okg, .int sd, .int rt, .int ps])), (osq, .inl (cI, 64, .inl sq)), (okg, .inl (cI, 2, .inl kg))]) (wf := [(oP, .inr (1, [.ref osq, .ref okg, .int sd, .int rt, .int ps])), (osq, .inl (cI, 64, .inl sq)), (okg, .inl (cI, 2, .inl kg))]) ⟨hx, hb, hml, hown, hts⟩ (ct_P_besideOf l dC dI cI cL cR v1 v2 hy9) mm_124 mm_125 mm_123 mm_15 hd_P_besideOf (by decide) qq_00 hP hD hK hS hA hT hN [] [0, 1, 2] [0, 1, 2] rfl rfl rfl (by decide) rfl hl.1 rfl (Nat.le_of_ble_eq_true rfl) dd_P_play_92 (fun H locs hP hD hS => ?_)
        refine W.eq (g2 := F0 m 95 ls [.int r9, .ref osq]) rfl ?_
        refine lv_iconst (v := 0) hx hb dd_P_play_95 (by decide) ?_
        obtain ⟨hi10, hf⟩ := qq_ckE hf
        refine va_iast (D := (dC, dI)) (f := sq) (n := 64) (cA := cI) hx hb hK hP hD hS 1 0 rfl rfl (qq_inE hi10) dd_P_play_96 (fun H locs hP hD hS => ?_)
        obtain ⟨sq_11, esq_11⟩ : ∃ z, z = upd sq r9.toNatClampNeg 0 := ⟨_, rfl⟩
        replace hf := qq_lt esq_11 hf
        have hP : va_P (dC, dI) classes [(oP, .inr (1, [.ref osq, .ref okg, .int sd, .int rt, .int ps])), (osq, .inl (cI, 64, .inl sq_11)), (okg, .inl (cI, 2, .inl kg))] H := by rw [esq_11]; exact hP
        have hD : va_D A [(oP, .inr (1, [.ref osq, .ref okg, .int sd, .int rt, .int ps])), (osq, .inl (cI, 64, .inl sq_11)), (okg, .inl (cI, 2, .inl kg))] := by rw [esq_11]; exact hD
        exact hJ97 sd rt ps sq_11 kg v1 v2 v3 v5 v7 _ _ _ (lv_sub hl [5, 4, 3, 2, 1, 0] rfl) hP hD hS hf
theorem dd_P_takeBack_0 : decode bb_P_takeBack 0 = .ok (.iload_n 1, 1) := by decide +kernel
theorem dd_P_takeBack_1 : decode bb_P_takeBack 1 = .ok (.bipush 63, 2) := by decide +kernel
theorem dd_P_takeBack_3 : decode bb_P_takeBack 3 = .ok (.iand, 1) := by decide +kernel
theorem dd_P_takeBack_4 : decode bb_P_takeBack 4 = .ok (.istore_n 3, 1) := by decide +kernel
theorem dd_P_takeBack_5 : decode bb_P_takeBack 5 = .ok (.iload_n 1, 1) := by decide +kernel
theorem dd_P_takeBack_6 : decode bb_P_takeBack 6 = .ok (.bipush 6, 2) := by decide +kernel
theorem dd_P_takeBack_8 : decode bb_P_takeBack 8 = .ok (.ishr, 1) := by decide +kernel
theorem dd_P_takeBack_9 : decode bb_P_takeBack 9 = .ok (.bipush 63, 2) := by decide +kernel
theorem dd_P_takeBack_11 : decode bb_P_takeBack 11 = .ok (.iand, 1) := by decide +kernel
theorem dd_P_takeBack_12 : decode bb_P_takeBack 12 = .ok (.istore 4, 2) := by decide +kernel
theorem dd_P_takeBack_14 : decode bb_P_takeBack 14 = .ok (.iload_n 1, 1) := by decide +kernel
theorem dd_P_takeBack_15 : decode bb_P_takeBack 15 = .ok (.bipush 12, 2) := by decide +kernel
theorem dd_P_takeBack_17 : decode bb_P_takeBack 17 = .ok (.ishr, 1) := by decide +kernel
theorem dd_P_takeBack_18 : decode bb_P_takeBack 18 = .ok (.istore 5, 2) := by decide +kernel
theorem dd_P_takeBack_20 : decode bb_P_takeBack 20 = .ok (.iload_n 2, 1) := by decide +kernel
theorem dd_P_takeBack_21 : decode bb_P_takeBack 21 = .ok (.bipush 15, 2) := by decide +kernel
theorem dd_P_takeBack_23 : decode bb_P_takeBack 23 = .ok (.iand, 1) := by decide +kernel
theorem dd_P_takeBack_24 : decode bb_P_takeBack 24 = .ok (.istore 6, 2) := by decide +kernel
theorem dd_P_takeBack_26 : decode bb_P_takeBack 26 = .ok (.aload_n 0, 1) := by decide +kernel
theorem dd_P_takeBack_27 : decode bb_P_takeBack 27 = .ok (.iconst 1, 1) := by decide +kernel
theorem dd_P_takeBack_28 : decode bb_P_takeBack 28 = .ok (.aload_n 0, 1) := by decide +kernel
theorem dd_P_takeBack_29 : decode bb_P_takeBack 29 = .ok (.getfield 68, 3) := by decide +kernel
theorem dd_P_takeBack_32 : decode bb_P_takeBack 32 = .ok (.isub, 1) := by decide +kernel
theorem dd_P_takeBack_33 : decode bb_P_takeBack 33 = .ok (.putfield 68, 3) := by decide +kernel
theorem dd_P_takeBack_36 : decode bb_P_takeBack 36 = .ok (.aload_n 0, 1) := by decide +kernel
theorem dd_P_takeBack_37 : decode bb_P_takeBack 37 = .ok (.iload_n 2, 1) := by decide +kernel
theorem dd_P_takeBack_38 : decode bb_P_takeBack 38 = .ok (.iconst 4, 1) := by decide +kernel
theorem dd_P_takeBack_39 : decode bb_P_takeBack 39 = .ok (.ishr, 1) := by decide +kernel
theorem dd_P_takeBack_40 : decode bb_P_takeBack 40 = .ok (.bipush 15, 2) := by decide +kernel
theorem dd_P_takeBack_42 : decode bb_P_takeBack 42 = .ok (.iand, 1) := by decide +kernel
theorem dd_P_takeBack_43 : decode bb_P_takeBack 43 = .ok (.putfield 147, 3) := by decide +kernel
theorem dd_P_takeBack_46 : decode bb_P_takeBack 46 = .ok (.aload_n 0, 1) := by decide +kernel
theorem dd_P_takeBack_47 : decode bb_P_takeBack 47 = .ok (.iload_n 2, 1) := by decide +kernel
theorem dd_P_takeBack_48 : decode bb_P_takeBack 48 = .ok (.bipush 8, 2) := by decide +kernel
theorem dd_P_takeBack_50 : decode bb_P_takeBack 50 = .ok (.ishr, 1) := by decide +kernel
theorem dd_P_takeBack_51 : decode bb_P_takeBack 51 = .ok (.iconst 1, 1) := by decide +kernel
theorem dd_P_takeBack_52 : decode bb_P_takeBack 52 = .ok (.isub, 1) := by decide +kernel
theorem dd_P_takeBack_53 : decode bb_P_takeBack 53 = .ok (.putfield 134, 3) := by decide +kernel
theorem dd_P_takeBack_56 : decode bb_P_takeBack 56 = .ok (.aload_n 0, 1) := by decide +kernel
theorem dd_P_takeBack_57 : decode bb_P_takeBack 57 = .ok (.getfield 9, 3) := by decide +kernel
theorem dd_P_takeBack_60 : decode bb_P_takeBack 60 = .ok (.iload_n 3, 1) := by decide +kernel
theorem dd_P_takeBack_61 : decode bb_P_takeBack 61 = .ok (.iload 5, 2) := by decide +kernel
theorem dd_P_takeBack_63 : decode bb_P_takeBack 63 = .ok (.ifCond .ne 13, 3) := by decide +kernel
theorem dd_P_takeBack_66 : decode bb_P_takeBack 66 = .ok (.aload_n 0, 1) := by decide +kernel
theorem dd_P_takeBack_67 : decode bb_P_takeBack 67 = .ok (.getfield 9, 3) := by decide +kernel
theorem dd_P_takeBack_70 : decode bb_P_takeBack 70 = .ok (.iload 4, 2) := by decide +kernel
theorem dd_P_takeBack_72 : decode bb_P_takeBack 72 = .ok (.iaload, 1) := by decide +kernel
theorem dd_P_takeBack_73 : decode bb_P_takeBack 73 = .ok (.goto 12, 3) := by decide +kernel
theorem dd_P_takeBack_76 : decode bb_P_takeBack 76 = .ok (.iconst 1, 1) := by decide +kernel
theorem dd_P_takeBack_77 : decode bb_P_takeBack 77 = .ok (.bipush 6, 2) := by decide +kernel
theorem dd_P_takeBack_79 : decode bb_P_takeBack 79 = .ok (.aload_n 0, 1) := by decide +kernel
theorem dd_P_takeBack_80 : decode bb_P_takeBack 80 = .ok (.getfield 68, 3) := by decide +kernel
theorem dd_P_takeBack_83 : decode bb_P_takeBack 83 = .ok (.imul, 1) := by decide +kernel
theorem dd_P_takeBack_84 : decode bb_P_takeBack 84 = .ok (.iadd, 1) := by decide +kernel
theorem dd_P_takeBack_85 : decode bb_P_takeBack 85 = .ok (.iastore, 1) := by decide +kernel
theorem dd_P_takeBack_86 : decode bb_P_takeBack 86 = .ok (.aload_n 0, 1) := by decide +kernel
theorem dd_P_takeBack_87 : decode bb_P_takeBack 87 = .ok (.getfield 9, 3) := by decide +kernel
theorem dd_P_takeBack_90 : decode bb_P_takeBack 90 = .ok (.iload 4, 2) := by decide +kernel
theorem dd_P_takeBack_92 : decode bb_P_takeBack 92 = .ok (.iload 6, 2) := by decide +kernel
theorem dd_P_takeBack_94 : decode bb_P_takeBack 94 = .ok (.iastore, 1) := by decide +kernel
theorem dd_P_takeBack_95 : decode bb_P_takeBack 95 = .ok (.aload_n 0, 1) := by decide +kernel
theorem dd_P_takeBack_96 : decode bb_P_takeBack 96 = .ok (.getfield 9, 3) := by decide +kernel
theorem dd_P_takeBack_99 : decode bb_P_takeBack 99 = .ok (.iload_n 3, 1) := by decide +kernel
theorem dd_P_takeBack_100 : decode bb_P_takeBack 100 = .ok (.iaload, 1) := by decide +kernel
theorem dd_P_takeBack_101 : decode bb_P_takeBack 101 = .ok (.bipush 6, 2) := by decide +kernel
theorem dd_P_takeBack_103 : decode bb_P_takeBack 103 = .ok (.aload_n 0, 1) := by decide +kernel
theorem dd_P_takeBack_104 : decode bb_P_takeBack 104 = .ok (.getfield 68, 3) := by decide +kernel
theorem dd_P_takeBack_107 : decode bb_P_takeBack 107 = .ok (.imul, 1) := by decide +kernel
theorem dd_P_takeBack_108 : decode bb_P_takeBack 108 = .ok (.isub, 1) := by decide +kernel
theorem dd_P_takeBack_109 : decode bb_P_takeBack 109 = .ok (.istore 7, 2) := by decide +kernel
theorem dd_P_takeBack_111 : decode bb_P_takeBack 111 = .ok (.iload 7, 2) := by decide +kernel
theorem dd_P_takeBack_113 : decode bb_P_takeBack 113 = .ok (.iconst 1, 1) := by decide +kernel
theorem dd_P_takeBack_114 : decode bb_P_takeBack 114 = .ok (.if_icmp .ne 42, 3) := by decide +kernel
theorem dd_P_takeBack_117 : decode bb_P_takeBack 117 = .ok (.iload_n 3, 1) := by decide +kernel
theorem dd_P_takeBack_118 : decode bb_P_takeBack 118 = .ok (.bipush 8, 2) := by decide +kernel
theorem dd_P_takeBack_120 : decode bb_P_takeBack 120 = .ok (.irem, 1) := by decide +kernel
theorem dd_P_takeBack_121 : decode bb_P_takeBack 121 = .ok (.iload 4, 2) := by decide +kernel
theorem dd_P_takeBack_123 : decode bb_P_takeBack 123 = .ok (.bipush 8, 2) := by decide +kernel
theorem dd_P_takeBack_125 : decode bb_P_takeBack 125 = .ok (.irem, 1) := by decide +kernel
theorem dd_P_takeBack_126 : decode bb_P_takeBack 126 = .ok (.if_icmp .eq 30, 3) := by decide +kernel
theorem dd_P_takeBack_129 : decode bb_P_takeBack 129 = .ok (.iload 6, 2) := by decide +kernel
theorem dd_P_takeBack_131 : decode bb_P_takeBack 131 = .ok (.ifCond .ne 25, 3) := by decide +kernel
theorem dd_P_takeBack_134 : decode bb_P_takeBack 134 = .ok (.aload_n 0, 1) := by decide +kernel
theorem dd_P_takeBack_135 : decode bb_P_takeBack 135 = .ok (.getfield 9, 3) := by decide +kernel
theorem dd_P_takeBack_138 : decode bb_P_takeBack 138 = .ok (.iload_n 3, 1) := by decide +kernel
theorem dd_P_takeBack_139 : decode bb_P_takeBack 139 = .ok (.iload 4, 2) := by decide +kernel
theorem dd_P_takeBack_141 : decode bb_P_takeBack 141 = .ok (.invokestatic 150, 3) := by decide +kernel
theorem dd_P_takeBack_144 : decode bb_P_takeBack 144 = .ok (.iconst 1, 1) := by decide +kernel
theorem dd_P_takeBack_145 : decode bb_P_takeBack 145 = .ok (.bipush 6, 2) := by decide +kernel
theorem dd_P_takeBack_147 : decode bb_P_takeBack 147 = .ok (.iconst 1, 1) := by decide +kernel
theorem dd_P_takeBack_148 : decode bb_P_takeBack 148 = .ok (.aload_n 0, 1) := by decide +kernel
theorem dd_P_takeBack_149 : decode bb_P_takeBack 149 = .ok (.getfield 68, 3) := by decide +kernel
theorem dd_P_takeBack_152 : decode bb_P_takeBack 152 = .ok (.isub, 1) := by decide +kernel
theorem dd_P_takeBack_153 : decode bb_P_takeBack 153 = .ok (.imul, 1) := by decide +kernel
theorem dd_P_takeBack_154 : decode bb_P_takeBack 154 = .ok (.iadd, 1) := by decide +kernel
theorem dd_P_takeBack_155 : decode bb_P_takeBack 155 = .ok (.iastore, 1) := by decide +kernel
theorem dd_P_takeBack_156 : decode bb_P_takeBack 156 = .ok (.iload 7, 2) := by decide +kernel
theorem dd_P_takeBack_158 : decode bb_P_takeBack 158 = .ok (.bipush 6, 2) := by decide +kernel
theorem dd_P_takeBack_160 : decode bb_P_takeBack 160 = .ok (.if_icmp .ne 38, 3) := by decide +kernel
theorem dd_P_takeBack_163 : decode bb_P_takeBack 163 = .ok (.aload_n 0, 1) := by decide +kernel
theorem dd_P_takeBack_164 : decode bb_P_takeBack 164 = .ok (.getfield 15, 3) := by decide +kernel
theorem dd_P_takeBack_167 : decode bb_P_takeBack 167 = .ok (.aload_n 0, 1) := by decide +kernel
theorem dd_P_takeBack_168 : decode bb_P_takeBack 168 = .ok (.getfield 68, 3) := by decide +kernel
theorem dd_P_takeBack_171 : decode bb_P_takeBack 171 = .ok (.iload_n 3, 1) := by decide +kernel
theorem dd_P_takeBack_172 : decode bb_P_takeBack 172 = .ok (.iastore, 1) := by decide +kernel
theorem dd_P_takeBack_173 : decode bb_P_takeBack 173 = .ok (.iload_n 3, 1) := by decide +kernel
theorem dd_P_takeBack_174 : decode bb_P_takeBack 174 = .ok (.iload 4, 2) := by decide +kernel
theorem dd_P_takeBack_176 : decode bb_P_takeBack 176 = .ok (.invokestatic 153, 3) := by decide +kernel
theorem dd_P_takeBack_179 : decode bb_P_takeBack 179 = .ok (.ifCond .eq 19, 3) := by decide +kernel
theorem dd_P_takeBack_182 : decode bb_P_takeBack 182 = .ok (.aload_n 0, 1) := by decide +kernel
theorem dd_P_takeBack_183 : decode bb_P_takeBack 183 = .ok (.iload_n 3, 1) := by decide +kernel
theorem dd_P_takeBack_184 : decode bb_P_takeBack 184 = .ok (.iload 4, 2) := by decide +kernel
theorem dd_P_takeBack_186 : decode bb_P_takeBack 186 = .ok (.iadd, 1) := by decide +kernel
theorem dd_P_takeBack_187 : decode bb_P_takeBack 187 = .ok (.iconst 2, 1) := by decide +kernel
theorem dd_P_takeBack_188 : decode bb_P_takeBack 188 = .ok (.idiv, 1) := by decide +kernel
theorem dd_P_takeBack_189 : decode bb_P_takeBack 189 = .ok (.iload_n 3, 1) := by decide +kernel
theorem dd_P_takeBack_190 : decode bb_P_takeBack 190 = .ok (.iload 4, 2) := by decide +kernel
theorem dd_P_takeBack_192 : decode bb_P_takeBack 192 = .ok (.invokestatic 156, 3) := by decide +kernel
theorem dd_P_takeBack_195 : decode bb_P_takeBack 195 = .ok (.invokevirtual 159, 3) := by decide +kernel
theorem dd_P_takeBack_198 : decode bb_P_takeBack 198 = .ok (.return_, 1) := by decide +kernel
abbrev ty_P_takeBack : Type := Int32 × Int32 × Int32 × (Nat → Int32) × (Nat → Int32)
noncomputable def bk_P_takeBack_198 (a1 : Int32) (a2 : Int32) (sd : Int32) (rt : Int32) (ps : Int32) (sq : Nat → Int32) (kg : Nat → Int32) : Option ty_P_takeBack := some (sd, rt, ps, sq, kg)
noncomputable def bk_P_takeBack_156 (a1 : Int32) (a2 : Int32) (sd : Int32) (rt : Int32) (ps : Int32) (sq : Nat → Int32) (kg : Nat → Int32) (x3 : Int32) (x4 : Int32) (x7 : Int32) : Option ty_P_takeBack := if x7 = 6 then (qq_ck (qq_in sd 2) <| qq_let (upd kg sd.toNatClampNeg x3) fun kg_2002 => (fn_P_isCastling x3 x4).bind fun r2003 => if r2003 = 0 then (bk_P_takeBack_198 a1 a2 sd rt ps sq kg_2002) else ((fn_P_castlingCorner x3 x4).bind fun r2004 => (fn_P_shift sq ((x3 + x4) / 2) r2004).bind fun sq_2005 => bk_P_takeBack_198 a1 a2 sd rt ps sq_2005 kg_2002)) else (bk_P_takeBack_198 a1 a2 sd rt ps sq kg)
noncomputable def bk_P_takeBack_85 (a1 : Int32) (a2 : Int32) (sd : Int32) (rt : Int32) (ps : Int32) (sq : Nat → Int32) (kg : Nat → Int32) (x3 : Int32) (x4 : Int32) (x6 : Int32) (s1 : Int32) (s2 : Int32) : Option ty_P_takeBack := qq_ck (qq_in s1 64) <| qq_let (upd sq s1.toNatClampNeg s2) fun sq_3002 => qq_ck (qq_in x4 64) <| qq_let (upd sq_3002 x4.toNatClampNeg x6) fun sq_3004 => qq_ck (qq_in x3 64) <| qq_let ((sq_3004 x3.toNatClampNeg) - (6 * sd)) fun v3006 => if v3006 = 1 then (if (x3 - x3 / 8 * 8) = (x4 - x4 / 8 * 8) then (bk_P_takeBack_156 a1 a2 sd rt ps sq_3004 kg x3 x4 v3006) else (if x6 = 0 then ((fn_P_besideOf x3 x4).bind fun r3007 => qq_ck (qq_in r3007 64) <| qq_let (upd sq_3004 r3007.toNatClampNeg (1 + (6 * (1 - sd)))) fun sq_3009 => bk_P_takeBack_156 a1 a2 sd rt ps sq_3009 kg x3 x4 v3006) else (bk_P_takeBack_156 a1 a2 sd rt ps sq_3004 kg x3 x4 v3006))) else (bk_P_takeBack_156 a1 a2 sd rt ps sq_3004 kg x3 x4 v3006)
noncomputable def fn_P_takeBack (sd : Int32) (rt : Int32) (ps : Int32) (sq : Nat → Int32) (kg : Nat → Int32) (a1 : Int32) (a2 : Int32) : Option ty_P_takeBack := qq_let (a1 &&& 63) fun v1 => qq_let ((a1 >>> (6 &&& 31)) &&& 63) fun v2 => qq_let (a1 >>> (12 &&& 31)) fun v3 => qq_let (a2 &&& 15) fun v4 => qq_let (1 - sd) fun v5 => qq_let ((a2 >>> (4 &&& 31)) &&& 15) fun v6 => qq_let ((a2 >>> (8 &&& 31)) - 1) fun v7 => if v3 = 0 then (qq_ck (qq_in v2 64) <| bk_P_takeBack_85 a1 a2 v5 v6 v7 sq kg v1 v2 v4 v1 (sq v2.toNatClampNeg)) else (bk_P_takeBack_85 a1 a2 v5 v6 v7 sq kg v1 v2 v4 v1 (1 + (6 * v5)))
abbrev rm_P_takeBack : Room := { frames := 2, cells := 0, slots := 0, locals := 42 }
set_option maxHeartbeats 4000000 in
set_option maxRecDepth 100000 in
theorem ct_P_takeBack (l : Launch) (dC : Nat → ClassId) (dI : Nat → Nat → Nat) (cI cL cR : ClassId) (oP osq okg : Nat) (sd : Int32) (rt : Int32) (ps : Int32) (sq : Nat → Int32) (kg : Nat → Int32) (a1 : Int32) (a2 : Int32) {sd' : Int32} {rt' : Int32} {ps' : Int32} {sq' : Nat → Int32} {kg' : Nat → Int32} (hf : fn_P_takeBack sd rt ps sq kg a1 a2 = some (sd', rt', ps', sq', kg')) : qq_det l yy_P_takeBack (ww_of yy_P_takeBack bb_P_takeBack 8 none) rm_P_takeBack (dC, dI) (qq_ty cI cL cR) [.ref oP, .int a1, .int a2] [(oP, .inr (1, [.ref osq, .ref okg, .int sd, .int rt, .int ps])), (osq, .inl (cI, 64, .inl sq)), (okg, .inl (cI, 2, .inl kg))] none [(oP, .inr (1, [.ref osq, .ref okg, .int sd', .int rt', .int ps'])), (osq, .inl (cI, 64, .inl sq')), (okg, .inl (cI, 2, .inl kg'))] := by
  refine qq_of (own := RR_P) (by decide) rfl (Nat.le_of_ble_eq_true rfl) ?_
  intro p e s m below meth c A Q ls hx hb hml hr hlocks hown hts hK hA hT hN hP hD hS hl hQ
  have hl : lv_has ls 8 [(0, .ref oP), (1, .int a1), (2, .int a2)] := hl
  have hJ198 : ∀ (sd : Int32) (rt : Int32) (ps : Int32) (sq : Nat → Int32) (kg : Nat → Int32) (H : Heap) (locs : List Loc) (ls : Array Slot), lv_has ls 8 [] → va_P (dC, dI) classes [(oP, .inr (1, [.ref osq, .ref okg, .int sd, .int rt, .int ps])), (osq, .inl (cI, 64, .inl sq)), (okg, .inl (cI, 2, .inl kg))] H → va_D A [(oP, .inr (1, [.ref osq, .ref okg, .int sd, .int rt, .int ps])), (osq, .inl (cI, 64, .inl sq)), (okg, .inl (cI, 2, .inl kg))] → va_S A s.heap H locs → bk_P_takeBack_198 a1 a2 sd rt ps sq kg = some (sd', rt', ps', sq', kg') → W p l e rm_P_takeBack s m ([.ref oP, .int a1, .int a2] : List Value).toArray below meth c H locs 0 0 Q (F0 m 198 ls []) := by
    intro sd rt ps sq kg H locs ls hl hP hD hS hf
    rw [bk_P_takeBack_198] at hf
    cases hf
    exact qq_vret hx hb hr hlocks hQ hP hD hK hS dd_P_takeBack_198
  have hJ156 : ∀ (sd : Int32) (rt : Int32) (ps : Int32) (sq : Nat → Int32) (kg : Nat → Int32) (x3 : Int32) (x4 : Int32) (x7 : Int32) (H : Heap) (locs : List Loc) (ls : Array Slot), lv_has ls 8 [(0, .ref oP), (3, .int x3), (4, .int x4), (7, .int x7)] → va_P (dC, dI) classes [(oP, .inr (1, [.ref osq, .ref okg, .int sd, .int rt, .int ps])), (osq, .inl (cI, 64, .inl sq)), (okg, .inl (cI, 2, .inl kg))] H → va_D A [(oP, .inr (1, [.ref osq, .ref okg, .int sd, .int rt, .int ps])), (osq, .inl (cI, 64, .inl sq)), (okg, .inl (cI, 2, .inl kg))] → va_S A s.heap H locs → bk_P_takeBack_156 a1 a2 sd rt ps sq kg x3 x4 x7 = some (sd', rt', ps', sq', kg') → W p l e rm_P_takeBack s m ([.ref oP, .int a1, .int a2] : List Value).toArray below meth c H locs 0 0 Q (F0 m 156 ls []) := by
    intro sd rt ps sq kg x3 x4 x7 H locs ls hl hP hD hS hf
    rw [bk_P_takeBack_156] at hf
    refine lv_iload hx hb dd_P_takeBack_156 (lv_at hl 3 rfl) ?_
    refine lv_bipush (v := 6) hx hb dd_P_takeBack_158 (by decide) ?_
    refine lv_icmp_ne (tgt := 198) hx hb dd_P_takeBack_160 (by decide) (fun hc => ?_) (fun hc => ?_)
    · replace hf := qq_f hc hf
      exact hJ198 sd rt ps sq kg _ _ _ (lv_sub hl [] rfl) hP hD hS hf
    · replace hf := qq_t hc hf
      refine lv_aload_n hx hb dd_P_takeBack_163 rfl (lv_at hl 0 rfl) ?_
      refine va_get (D := (dC, dI)) (ci := 1) (v := .ref okg) (C := RR_P) (T := FF_P) (N := 5) hx hb hts uu_P hown hK hP 0 rfl rfl 1 (by decide) (hts _ mm_93) (fun _ h9 => h9) rfl dd_P_takeBack_164 ?_
      refine lv_aload_n hx hb dd_P_takeBack_167 rfl (lv_at hl 0 rfl) ?_
      refine va_get (D := (dC, dI)) (ci := 1) (v := .int sd) (C := RR_P) (T := FF_P) (N := 5) hx hb hts uu_P hown hK hP 0 rfl rfl 2 (by decide) (hts _ mm_12) (fun _ h9 => h9) rfl dd_P_takeBack_168 ?_
      refine lv_iload_n hx hb dd_P_takeBack_171 rfl (lv_at hl 1 rfl) ?_
      obtain ⟨hi2001, hf⟩ := qq_ckE hf
      refine va_iast (D := (dC, dI)) (f := kg) (n := 2) (cA := cI) hx hb hK hP hD hS 2 0 rfl rfl (qq_inE hi2001) dd_P_takeBack_172 (fun H locs hP hD hS => ?_)
      obtain ⟨kg_2002, ekg_2002⟩ : ∃ z, z = upd kg sd.toNatClampNeg x3 := ⟨_, rfl⟩
      replace hf := qq_lt ekg_2002 hf
      have hP : va_P (dC, dI) classes [(oP, .inr (1, [.ref osq, .ref okg, .int sd, .int rt, .int ps])), (osq, .inl (cI, 64, .inl sq)), (okg, .inl (cI, 2, .inl kg_2002))] H := by rw [ekg_2002]; exact hP
      have hD : va_D A [(oP, .inr (1, [.ref osq, .ref okg, .int sd, .int rt, .int ps])), (osq, .inl (cI, 64, .inl sq)), (okg, .inl (cI, 2, .inl kg_2002))] := by rw [ekg_2002]; exact hD
      refine lv_iload_n hx hb dd_P_takeBack_173 rfl (lv_at hl 1 rfl) ?_
      refine lv_iload hx hb dd_P_takeBack_174 (lv_at hl 2 rfl) ?_
      obtain ⟨r2003, hy2003, hf⟩ := qq_bd hf
      refine qq_S (As := [.int x3, .int x4]) (rest := []) (wr := [(oP, .inr (1, [.ref osq, .ref okg, .int sd, .int rt, .int ps])), (osq, .inl (cI, 64, .inl sq)), (okg, .inl (cI, 2, .inl kg_2002))]) (wf := [(oP, .inr (1, [.ref osq, .ref okg, .int sd, .int rt, .int ps])), (osq, .inl (cI, 64, .inl sq)), (okg, .inl (cI, 2, .inl kg_2002))]) ⟨hx, hb, hml, hown, hts⟩ (ct_P_isCastling l dC dI cI cL cR x3 x4 hy2003) mm_114 mm_115 mm_113 mm_15 hd_P_isCastling (by decide) qq_00 hP hD hK hS hA hT hN [] [0, 1, 2] [0, 1, 2] rfl rfl rfl (by decide) rfl hl.1 rfl (Nat.le_of_ble_eq_true rfl) dd_P_takeBack_176 (fun H locs hP hD hS => ?_)
      refine W.eq (g2 := F0 m 179 ls [.int r2003]) rfl ?_
      refine lv_if_eq (tgt := 198) hx hb dd_P_takeBack_179 (by decide) (fun hc => ?_) (fun hc => ?_)
      · replace hf := qq_t hc hf
        exact hJ198 sd rt ps sq kg_2002 _ _ _ (lv_sub hl [] rfl) hP hD hS hf
      · replace hf := qq_f hc hf
        refine lv_aload_n hx hb dd_P_takeBack_182 rfl (lv_at hl 0 rfl) ?_
        refine lv_iload_n hx hb dd_P_takeBack_183 rfl (lv_at hl 1 rfl) ?_
        refine lv_iload hx hb dd_P_takeBack_184 (lv_at hl 2 rfl) ?_
        refine lv_iadd hx hb dd_P_takeBack_186 ?_
        refine lv_iconst (v := 2) hx hb dd_P_takeBack_187 (by decide) ?_
        refine lv_idiv hx hb dd_P_takeBack_188 (by decide) ?_
        refine lv_iload_n hx hb dd_P_takeBack_189 rfl (lv_at hl 1 rfl) ?_
        refine lv_iload hx hb dd_P_takeBack_190 (lv_at hl 2 rfl) ?_
        obtain ⟨r2004, hy2004, hf⟩ := qq_bd hf
        refine qq_S (As := [.int x3, .int x4]) (rest := [.int ((x3 + x4) / 2), .ref oP]) (wr := [(oP, .inr (1, [.ref osq, .ref okg, .int sd, .int rt, .int ps])), (osq, .inl (cI, 64, .inl sq)), (okg, .inl (cI, 2, .inl kg_2002))]) (wf := [(oP, .inr (1, [.ref osq, .ref okg, .int sd, .int rt, .int ps])), (osq, .inl (cI, 64, .inl sq)), (okg, .inl (cI, 2, .inl kg_2002))]) ⟨hx, hb, hml, hown, hts⟩ (ct_P_castlingCorner l dC dI cI cL cR x3 x4 hy2004) mm_117 mm_118 mm_116 mm_15 hd_P_castlingCorner (by decide) qq_00 hP hD hK hS hA hT hN [] [0, 1, 2] [0, 1, 2] rfl rfl rfl (by decide) rfl hl.1 rfl (Nat.le_of_ble_eq_true rfl) dd_P_takeBack_192 (fun H locs hP hD hS => ?_)
        refine W.eq (g2 := F0 m 195 ls [.int r2004, .int ((x3 + x4) / 2), .ref oP]) rfl ?_
        obtain ⟨sq_2005, hy2005, hf⟩ := qq_bd hf
        refine qq_V (As := [.int ((x3 + x4) / 2), .int r2004]) (rest := []) (wr := []) (wf := [(oP, .inr (1, [.ref osq, .ref okg, .int sd, .int rt, .int ps])), (osq, .inl (cI, 64, .inl sq_2005)), (okg, .inl (cI, 2, .inl kg_2002))]) ⟨hx, hb, hml, hown, hts⟩ (ct_P_shift l dC dI cI cL cR oP osq okg sd rt ps sq kg_2002 ((x3 + x4) / 2) r2004 hy2005) mm_120 mm_121 mm_122 mm_119 mm_15 hd_P_shift (by decide) qq_00 hP hD hK hS hA hT hN (q0 := 0) (ci := 1) rfl rfl [0, 1, 2] [] [0, 1, 2] rfl rfl rfl (by decide) rfl hl.1 rfl (Nat.le_of_ble_eq_true rfl) dd_P_takeBack_195 (fun H locs hP hD hS => ?_)
        refine W.eq (g2 := F0 m 198 ls []) rfl ?_
        exact hJ198 sd rt ps sq_2005 kg_2002 _ _ _ (lv_sub hl [] rfl) hP hD hS hf
  have hJ85 : ∀ (sd : Int32) (rt : Int32) (ps : Int32) (sq : Nat → Int32) (kg : Nat → Int32) (x3 : Int32) (x4 : Int32) (x6 : Int32) (s1 : Int32) (s2 : Int32) (H : Heap) (locs : List Loc) (ls : Array Slot), lv_has ls 8 [(0, .ref oP), (3, .int x3), (4, .int x4), (6, .int x6)] → va_P (dC, dI) classes [(oP, .inr (1, [.ref osq, .ref okg, .int sd, .int rt, .int ps])), (osq, .inl (cI, 64, .inl sq)), (okg, .inl (cI, 2, .inl kg))] H → va_D A [(oP, .inr (1, [.ref osq, .ref okg, .int sd, .int rt, .int ps])), (osq, .inl (cI, 64, .inl sq)), (okg, .inl (cI, 2, .inl kg))] → va_S A s.heap H locs → bk_P_takeBack_85 a1 a2 sd rt ps sq kg x3 x4 x6 s1 s2 = some (sd', rt', ps', sq', kg') → W p l e rm_P_takeBack s m ([.ref oP, .int a1, .int a2] : List Value).toArray below meth c H locs 0 0 Q (F0 m 85 ls [.int s2, .int s1, .ref osq]) := by
    intro sd rt ps sq kg x3 x4 x6 s1 s2 H locs ls hl hP hD hS hf
    rw [bk_P_takeBack_85] at hf
    obtain ⟨hi3001, hf⟩ := qq_ckE hf
    refine va_iast (D := (dC, dI)) (f := sq) (n := 64) (cA := cI) hx hb hK hP hD hS 1 0 rfl rfl (qq_inE hi3001) dd_P_takeBack_85 (fun H locs hP hD hS => ?_)
    obtain ⟨sq_3002, esq_3002⟩ : ∃ z, z = upd sq s1.toNatClampNeg s2 := ⟨_, rfl⟩
    replace hf := qq_lt esq_3002 hf
    have hP : va_P (dC, dI) classes [(oP, .inr (1, [.ref osq, .ref okg, .int sd, .int rt, .int ps])), (osq, .inl (cI, 64, .inl sq_3002)), (okg, .inl (cI, 2, .inl kg))] H := by rw [esq_3002]; exact hP
    have hD : va_D A [(oP, .inr (1, [.ref osq, .ref okg, .int sd, .int rt, .int ps])), (osq, .inl (cI, 64, .inl sq_3002)), (okg, .inl (cI, 2, .inl kg))] := by rw [esq_3002]; exact hD
    refine lv_aload_n hx hb dd_P_takeBack_86 rfl (lv_at hl 0 rfl) ?_
    refine va_get (D := (dC, dI)) (ci := 1) (v := .ref osq) (C := RR_P) (T := FF_P) (N := 5) hx hb hts uu_P hown hK hP 0 rfl rfl 0 (by decide) (hts _ mm_11) (fun _ h9 => h9) rfl dd_P_takeBack_87 ?_
    refine lv_iload hx hb dd_P_takeBack_90 (lv_at hl 2 rfl) ?_
    refine lv_iload hx hb dd_P_takeBack_92 (lv_at hl 3 rfl) ?_
    obtain ⟨hi3003, hf⟩ := qq_ckE hf
    refine va_iast (D := (dC, dI)) (f := sq_3002) (n := 64) (cA := cI) hx hb hK hP hD hS 1 0 rfl rfl (qq_inE hi3003) dd_P_takeBack_94 (fun H locs hP hD hS => ?_)
    obtain ⟨sq_3004, esq_3004⟩ : ∃ z, z = upd sq_3002 x4.toNatClampNeg x6 := ⟨_, rfl⟩
    replace hf := qq_lt esq_3004 hf
    have hP : va_P (dC, dI) classes [(oP, .inr (1, [.ref osq, .ref okg, .int sd, .int rt, .int ps])), (osq, .inl (cI, 64, .inl sq_3004)), (okg, .inl (cI, 2, .inl kg))] H := by rw [esq_3004]; exact hP
    have hD : va_D A [(oP, .inr (1, [.ref osq, .ref okg, .int sd, .int rt, .int ps])), (osq, .inl (cI, 64, .inl sq_3004)), (okg, .inl (cI, 2, .inl kg))] := by rw [esq_3004]; exact hD
    refine lv_aload_n hx hb dd_P_takeBack_95 rfl (lv_at hl 0 rfl) ?_
    refine va_get (D := (dC, dI)) (ci := 1) (v := .ref osq) (C := RR_P) (T := FF_P) (N := 5) hx hb hts uu_P hown hK hP 0 rfl rfl 0 (by decide) (hts _ mm_11) (fun _ h9 => h9) rfl dd_P_takeBack_96 ?_
    refine lv_iload_n hx hb dd_P_takeBack_99 rfl (lv_at hl 1 rfl) ?_
    obtain ⟨hi3005, hf⟩ := qq_ckE hf
    refine va_iald (D := (dC, dI)) (f := sq_3004) (n := 64) (cA := cI) hx hb hK hP 1 0 rfl rfl (qq_inE hi3005) dd_P_takeBack_100 ?_
    refine lv_bipush (v := 6) hx hb dd_P_takeBack_101 (by decide) ?_
    refine lv_aload_n hx hb dd_P_takeBack_103 rfl (lv_at hl 0 rfl) ?_
    refine va_get (D := (dC, dI)) (ci := 1) (v := .int sd) (C := RR_P) (T := FF_P) (N := 5) hx hb hts uu_P hown hK hP 0 rfl rfl 2 (by decide) (hts _ mm_12) (fun _ h9 => h9) rfl dd_P_takeBack_104 ?_
    refine lv_imul hx hb dd_P_takeBack_107 ?_
    refine lv_isub hx hb dd_P_takeBack_108 ?_
    refine lv_topi (fun v3006 ev3006 => ?_)
    replace hf := qq_lt ev3006 hf
    refine lv_istore (lv' := [(7, .int v3006), (0, .ref oP), (3, .int x3), (4, .int x4), (6, .int x6)]) hx hb dd_P_takeBack_109 hl (by decide) rfl (fun ls hl => ?_)
    refine lv_iload hx hb dd_P_takeBack_111 (lv_at hl 0 rfl) ?_
    refine lv_iconst (v := 1) hx hb dd_P_takeBack_113 (by decide) ?_
    refine lv_icmp_ne (tgt := 156) hx hb dd_P_takeBack_114 (by decide) (fun hc => ?_) (fun hc => ?_)
    · replace hf := qq_f hc hf
      exact hJ156 sd rt ps sq_3004 kg x3 x4 v3006 _ _ _ (lv_sub hl [1, 2, 3, 0] rfl) hP hD hS hf
    · replace hf := qq_t hc hf
      refine lv_iload_n hx hb dd_P_takeBack_117 rfl (lv_at hl 2 rfl) ?_
      refine lv_bipush (v := 8) hx hb dd_P_takeBack_118 (by decide) ?_
      refine lv_irem hx hb dd_P_takeBack_120 (by decide) ?_
      refine lv_iload hx hb dd_P_takeBack_121 (lv_at hl 3 rfl) ?_
      refine lv_bipush (v := 8) hx hb dd_P_takeBack_123 (by decide) ?_
      refine lv_irem hx hb dd_P_takeBack_125 (by decide) ?_
      refine lv_icmp_eq (tgt := 156) hx hb dd_P_takeBack_126 (by decide) (fun hc => ?_) (fun hc => ?_)
      · replace hf := qq_t hc hf
        exact hJ156 sd rt ps sq_3004 kg x3 x4 v3006 _ _ _ (lv_sub hl [1, 2, 3, 0] rfl) hP hD hS hf
      · replace hf := qq_f hc hf
        refine lv_iload hx hb dd_P_takeBack_129 (lv_at hl 4 rfl) ?_
        refine lv_if_ne (tgt := 156) hx hb dd_P_takeBack_131 (by decide) (fun hc => ?_) (fun hc => ?_)
        · replace hf := qq_f hc hf
          exact hJ156 sd rt ps sq_3004 kg x3 x4 v3006 _ _ _ (lv_sub hl [1, 2, 3, 0] rfl) hP hD hS hf
        · replace hf := qq_t hc hf
          refine lv_aload_n hx hb dd_P_takeBack_134 rfl (lv_at hl 1 rfl) ?_
          refine va_get (D := (dC, dI)) (ci := 1) (v := .ref osq) (C := RR_P) (T := FF_P) (N := 5) hx hb hts uu_P hown hK hP 0 rfl rfl 0 (by decide) (hts _ mm_11) (fun _ h9 => h9) rfl dd_P_takeBack_135 ?_
          refine lv_iload_n hx hb dd_P_takeBack_138 rfl (lv_at hl 2 rfl) ?_
          refine lv_iload hx hb dd_P_takeBack_139 (lv_at hl 3 rfl) ?_
          obtain ⟨r3007, hy3007, hf⟩ := qq_bd hf
          refine qq_S (As := [.int x3, .int x4]) (rest := [.ref osq]) (wr := [(oP, .inr (1, [.ref osq, .ref okg, .int sd, .int rt, .int ps])), (osq, .inl (cI, 64, .inl sq_3004)), (okg, .inl (cI, 2, .inl kg))]) (wf := [(oP, .inr (1, [.ref osq, .ref okg, .int sd, .int rt, .int ps])), (osq, .inl (cI, 64, .inl sq_3004)), (okg, .inl (cI, 2, .inl kg))]) ⟨hx, hb, hml, hown, hts⟩ (ct_P_besideOf l dC dI cI cL cR x3 x4 hy3007) mm_124 mm_125 mm_123 mm_15 hd_P_besideOf (by decide) qq_00 hP hD hK hS hA hT hN [] [0, 1, 2] [0, 1, 2] rfl rfl rfl (by decide) rfl hl.1 rfl (Nat.le_of_ble_eq_true rfl) dd_P_takeBack_141 (fun H locs hP hD hS => ?_)
          refine W.eq (g2 := F0 m 144 ls [.int r3007, .ref osq]) rfl ?_
          refine lv_iconst (v := 1) hx hb dd_P_takeBack_144 (by decide) ?_
          refine lv_bipush (v := 6) hx hb dd_P_takeBack_145 (by decide) ?_
          refine lv_iconst (v := 1) hx hb dd_P_takeBack_147 (by decide) ?_
          refine lv_aload_n hx hb dd_P_takeBack_148 rfl (lv_at hl 1 rfl) ?_
          refine va_get (D := (dC, dI)) (ci := 1) (v := .int sd) (C := RR_P) (T := FF_P) (N := 5) hx hb hts uu_P hown hK hP 0 rfl rfl 2 (by decide) (hts _ mm_12) (fun _ h9 => h9) rfl dd_P_takeBack_149 ?_
          refine lv_isub hx hb dd_P_takeBack_152 ?_
          refine lv_imul hx hb dd_P_takeBack_153 ?_
          refine lv_iadd hx hb dd_P_takeBack_154 ?_
          obtain ⟨hi3008, hf⟩ := qq_ckE hf
          refine va_iast (D := (dC, dI)) (f := sq_3004) (n := 64) (cA := cI) hx hb hK hP hD hS 1 0 rfl rfl (qq_inE hi3008) dd_P_takeBack_155 (fun H locs hP hD hS => ?_)
          obtain ⟨sq_3009, esq_3009⟩ : ∃ z, z = upd sq_3004 r3007.toNatClampNeg (1 + (6 * (1 - sd))) := ⟨_, rfl⟩
          replace hf := qq_lt esq_3009 hf
          have hP : va_P (dC, dI) classes [(oP, .inr (1, [.ref osq, .ref okg, .int sd, .int rt, .int ps])), (osq, .inl (cI, 64, .inl sq_3009)), (okg, .inl (cI, 2, .inl kg))] H := by rw [esq_3009]; exact hP
          have hD : va_D A [(oP, .inr (1, [.ref osq, .ref okg, .int sd, .int rt, .int ps])), (osq, .inl (cI, 64, .inl sq_3009)), (okg, .inl (cI, 2, .inl kg))] := by rw [esq_3009]; exact hD
          exact hJ156 sd rt ps sq_3009 kg x3 x4 v3006 _ _ _ (lv_sub hl [1, 2, 3, 0] rfl) hP hD hS hf
  rw [fn_P_takeBack] at hf
  refine lv_iload_n hx hb dd_P_takeBack_0 rfl (lv_at hl 1 rfl) ?_
  refine lv_bipush (v := 63) hx hb dd_P_takeBack_1 (by decide) ?_
  refine lv_iand hx hb dd_P_takeBack_3 ?_
  refine lv_topi (fun v1 ev1 => ?_)
  replace hf := qq_lt ev1 hf
  refine lv_istore_n (lv' := [(3, .int v1), (0, .ref oP), (1, .int a1), (2, .int a2)]) hx hb dd_P_takeBack_4 rfl hl (by decide) rfl (fun ls hl => ?_)
  refine lv_iload_n hx hb dd_P_takeBack_5 rfl (lv_at hl 2 rfl) ?_
  refine lv_bipush (v := 6) hx hb dd_P_takeBack_6 (by decide) ?_
  refine lv_ishr hx hb dd_P_takeBack_8 ?_
  refine lv_bipush (v := 63) hx hb dd_P_takeBack_9 (by decide) ?_
  refine lv_iand hx hb dd_P_takeBack_11 ?_
  refine lv_topi (fun v2 ev2 => ?_)
  replace hf := qq_lt ev2 hf
  refine lv_istore (lv' := [(4, .int v2), (3, .int v1), (0, .ref oP), (1, .int a1), (2, .int a2)]) hx hb dd_P_takeBack_12 hl (by decide) rfl (fun ls hl => ?_)
  refine lv_iload_n hx hb dd_P_takeBack_14 rfl (lv_at hl 3 rfl) ?_
  refine lv_bipush (v := 12) hx hb dd_P_takeBack_15 (by decide) ?_
  refine lv_ishr hx hb dd_P_takeBack_17 ?_
  refine lv_topi (fun v3 ev3 => ?_)
  replace hf := qq_lt ev3 hf
  refine lv_istore (lv' := [(5, .int v3), (4, .int v2), (3, .int v1), (0, .ref oP), (1, .int a1), (2, .int a2)]) hx hb dd_P_takeBack_18 hl (by decide) rfl (fun ls hl => ?_)
  refine lv_iload_n hx hb dd_P_takeBack_20 rfl (lv_at hl 5 rfl) ?_
  refine lv_bipush (v := 15) hx hb dd_P_takeBack_21 (by decide) ?_
  refine lv_iand hx hb dd_P_takeBack_23 ?_
  refine lv_topi (fun v4 ev4 => ?_)
  replace hf := qq_lt ev4 hf
  refine lv_istore (lv' := [(6, .int v4), (5, .int v3), (4, .int v2), (3, .int v1), (0, .ref oP), (1, .int a1), (2, .int a2)]) hx hb dd_P_takeBack_24 hl (by decide) rfl (fun ls hl => ?_)
  refine lv_aload_n hx hb dd_P_takeBack_26 rfl (lv_at hl 4 rfl) ?_
  refine lv_iconst (v := 1) hx hb dd_P_takeBack_27 (by decide) ?_
  refine lv_aload_n hx hb dd_P_takeBack_28 rfl (lv_at hl 4 rfl) ?_
  refine va_get (D := (dC, dI)) (ci := 1) (v := .int sd) (C := RR_P) (T := FF_P) (N := 5) hx hb hts uu_P hown hK hP 0 rfl rfl 2 (by decide) (hts _ mm_12) (fun _ h9 => h9) rfl dd_P_takeBack_29 ?_
  refine lv_isub hx hb dd_P_takeBack_32 ?_
  refine lv_topi (fun v5 ev5 => ?_)
  replace hf := qq_lt ev5 hf
  refine va_put (D := (dC, dI)) (ci := 1) (v := .int v5) (ty := .int) (C := RR_P) (T := FF_P) (N := 5) hx hb hts uu_P tt_P tt_P_ok nn_P hown hK hP hD hS 0 rfl rfl 2 (by decide) (hts _ mm_12) (fun _ h9 => h9) rfl (by decide +kernel) rfl rfl (Nat.le_of_ble_eq_true rfl) dd_P_takeBack_33 (fun H locs hP hD hS => ?_)
  have hP : va_P (dC, dI) classes [(oP, .inr (1, [.ref osq, .ref okg, .int v5, .int rt, .int ps])), (osq, .inl (cI, 64, .inl sq)), (okg, .inl (cI, 2, .inl kg))] H := hP
  have hD : va_D A [(oP, .inr (1, [.ref osq, .ref okg, .int v5, .int rt, .int ps])), (osq, .inl (cI, 64, .inl sq)), (okg, .inl (cI, 2, .inl kg))] := hD
  refine lv_aload_n hx hb dd_P_takeBack_36 rfl (lv_at hl 4 rfl) ?_
  refine lv_iload_n hx hb dd_P_takeBack_37 rfl (lv_at hl 6 rfl) ?_
  refine lv_iconst (v := 4) hx hb dd_P_takeBack_38 (by decide) ?_
  refine lv_ishr hx hb dd_P_takeBack_39 ?_
  refine lv_bipush (v := 15) hx hb dd_P_takeBack_40 (by decide) ?_
  refine lv_iand hx hb dd_P_takeBack_42 ?_
  refine lv_topi (fun v6 ev6 => ?_)
  replace hf := qq_lt ev6 hf
  refine va_put (D := (dC, dI)) (ci := 1) (v := .int v6) (ty := .int) (C := RR_P) (T := FF_P) (N := 5) hx hb hts uu_P tt_P tt_P_ok nn_P hown hK hP hD hS 0 rfl rfl 3 (by decide) (hts _ mm_77) (fun _ h9 => h9) rfl (by decide +kernel) rfl rfl (Nat.le_of_ble_eq_true rfl) dd_P_takeBack_43 (fun H locs hP hD hS => ?_)
  have hP : va_P (dC, dI) classes [(oP, .inr (1, [.ref osq, .ref okg, .int v5, .int v6, .int ps])), (osq, .inl (cI, 64, .inl sq)), (okg, .inl (cI, 2, .inl kg))] H := hP
  have hD : va_D A [(oP, .inr (1, [.ref osq, .ref okg, .int v5, .int v6, .int ps])), (osq, .inl (cI, 64, .inl sq)), (okg, .inl (cI, 2, .inl kg))] := hD
  refine lv_aload_n hx hb dd_P_takeBack_46 rfl (lv_at hl 4 rfl) ?_
  refine lv_iload_n hx hb dd_P_takeBack_47 rfl (lv_at hl 6 rfl) ?_
  refine lv_bipush (v := 8) hx hb dd_P_takeBack_48 (by decide) ?_
  refine lv_ishr hx hb dd_P_takeBack_50 ?_
  refine lv_iconst (v := 1) hx hb dd_P_takeBack_51 (by decide) ?_
  refine lv_isub hx hb dd_P_takeBack_52 ?_
  refine lv_topi (fun v7 ev7 => ?_)
  replace hf := qq_lt ev7 hf
  refine va_put (D := (dC, dI)) (ci := 1) (v := .int v7) (ty := .int) (C := RR_P) (T := FF_P) (N := 5) hx hb hts uu_P tt_P tt_P_ok nn_P hown hK hP hD hS 0 rfl rfl 4 (by decide) (hts _ mm_13) (fun _ h9 => h9) rfl (by decide +kernel) rfl rfl (Nat.le_of_ble_eq_true rfl) dd_P_takeBack_53 (fun H locs hP hD hS => ?_)
  have hP : va_P (dC, dI) classes [(oP, .inr (1, [.ref osq, .ref okg, .int v5, .int v6, .int v7])), (osq, .inl (cI, 64, .inl sq)), (okg, .inl (cI, 2, .inl kg))] H := hP
  have hD : va_D A [(oP, .inr (1, [.ref osq, .ref okg, .int v5, .int v6, .int v7])), (osq, .inl (cI, 64, .inl sq)), (okg, .inl (cI, 2, .inl kg))] := hD
  refine lv_aload_n hx hb dd_P_takeBack_56 rfl (lv_at hl 4 rfl) ?_
  refine va_get (D := (dC, dI)) (ci := 1) (v := .ref osq) (C := RR_P) (T := FF_P) (N := 5) hx hb hts uu_P hown hK hP 0 rfl rfl 0 (by decide) (hts _ mm_11) (fun _ h9 => h9) rfl dd_P_takeBack_57 ?_
  refine lv_iload_n hx hb dd_P_takeBack_60 rfl (lv_at hl 3 rfl) ?_
  refine lv_iload hx hb dd_P_takeBack_61 (lv_at hl 1 rfl) ?_
  refine lv_if_ne (tgt := 76) hx hb dd_P_takeBack_63 (by decide) (fun hc => ?_) (fun hc => ?_)
  · replace hf := qq_f hc hf
    refine lv_iconst (v := 1) hx hb dd_P_takeBack_76 (by decide) ?_
    refine lv_bipush (v := 6) hx hb dd_P_takeBack_77 (by decide) ?_
    refine lv_aload_n hx hb dd_P_takeBack_79 rfl (lv_at hl 4 rfl) ?_
    refine va_get (D := (dC, dI)) (ci := 1) (v := .int v5) (C := RR_P) (T := FF_P) (N := 5) hx hb hts uu_P hown hK hP 0 rfl rfl 2 (by decide) (hts _ mm_12) (fun _ h9 => h9) rfl dd_P_takeBack_80 ?_
    refine lv_imul hx hb dd_P_takeBack_83 ?_
    refine lv_iadd hx hb dd_P_takeBack_84 ?_
    exact hJ85 v5 v6 v7 sq kg v1 v2 v4 v1 (1 + (6 * v5)) _ _ _ (lv_sub hl [4, 3, 2, 0] rfl) hP hD hS hf
  · replace hf := qq_t hc hf
    refine lv_aload_n hx hb dd_P_takeBack_66 rfl (lv_at hl 4 rfl) ?_
    refine va_get (D := (dC, dI)) (ci := 1) (v := .ref osq) (C := RR_P) (T := FF_P) (N := 5) hx hb hts uu_P hown hK hP 0 rfl rfl 0 (by decide) (hts _ mm_11) (fun _ h9 => h9) rfl dd_P_takeBack_67 ?_
    refine lv_iload hx hb dd_P_takeBack_70 (lv_at hl 2 rfl) ?_
    obtain ⟨hi8, hf⟩ := qq_ckE hf
    refine va_iald (D := (dC, dI)) (f := sq) (n := 64) (cA := cI) hx hb hK hP 1 0 rfl rfl (qq_inE hi8) dd_P_takeBack_72 ?_
    refine lv_goto (tgt := 85) hx hb dd_P_takeBack_73 (by decide) ?_
    exact hJ85 v5 v6 v7 sq kg v1 v2 v4 v1 (sq v2.toNatClampNeg) _ _ _ (lv_sub hl [4, 3, 2, 0] rfl) hP hD hS hf
theorem dd_P_keepsKingSafe_0 : decode bb_P_keepsKingSafe 0 = .ok (.aload_n 0, 1) := by decide +kernel
theorem dd_P_keepsKingSafe_1 : decode bb_P_keepsKingSafe 1 = .ok (.getfield 68, 3) := by decide +kernel
theorem dd_P_keepsKingSafe_4 : decode bb_P_keepsKingSafe 4 = .ok (.istore_n 2, 1) := by decide +kernel
theorem dd_P_keepsKingSafe_5 : decode bb_P_keepsKingSafe 5 = .ok (.aload_n 0, 1) := by decide +kernel
theorem dd_P_keepsKingSafe_6 : decode bb_P_keepsKingSafe 6 = .ok (.iload_n 1, 1) := by decide +kernel
theorem dd_P_keepsKingSafe_7 : decode bb_P_keepsKingSafe 7 = .ok (.invokevirtual 87, 3) := by decide +kernel
theorem dd_P_keepsKingSafe_10 : decode bb_P_keepsKingSafe 10 = .ok (.istore_n 3, 1) := by decide +kernel
theorem dd_P_keepsKingSafe_11 : decode bb_P_keepsKingSafe 11 = .ok (.aload_n 0, 1) := by decide +kernel
theorem dd_P_keepsKingSafe_12 : decode bb_P_keepsKingSafe 12 = .ok (.iconst 1, 1) := by decide +kernel
theorem dd_P_keepsKingSafe_13 : decode bb_P_keepsKingSafe 13 = .ok (.iload_n 2, 1) := by decide +kernel
theorem dd_P_keepsKingSafe_14 : decode bb_P_keepsKingSafe 14 = .ok (.isub, 1) := by decide +kernel
theorem dd_P_keepsKingSafe_15 : decode bb_P_keepsKingSafe 15 = .ok (.aload_n 0, 1) := by decide +kernel
theorem dd_P_keepsKingSafe_16 : decode bb_P_keepsKingSafe 16 = .ok (.getfield 15, 3) := by decide +kernel
theorem dd_P_keepsKingSafe_19 : decode bb_P_keepsKingSafe 19 = .ok (.iload_n 2, 1) := by decide +kernel
theorem dd_P_keepsKingSafe_20 : decode bb_P_keepsKingSafe 20 = .ok (.iaload, 1) := by decide +kernel
theorem dd_P_keepsKingSafe_21 : decode bb_P_keepsKingSafe 21 = .ok (.invokevirtual 21, 3) := by decide +kernel
theorem dd_P_keepsKingSafe_24 : decode bb_P_keepsKingSafe 24 = .ok (.ifCond .ne 7, 3) := by decide +kernel
theorem dd_P_keepsKingSafe_27 : decode bb_P_keepsKingSafe 27 = .ok (.iconst 1, 1) := by decide +kernel
theorem dd_P_keepsKingSafe_28 : decode bb_P_keepsKingSafe 28 = .ok (.goto 4, 3) := by decide +kernel
theorem dd_P_keepsKingSafe_31 : decode bb_P_keepsKingSafe 31 = .ok (.iconst 0, 1) := by decide +kernel
theorem dd_P_keepsKingSafe_32 : decode bb_P_keepsKingSafe 32 = .ok (.istore 4, 2) := by decide +kernel
theorem dd_P_keepsKingSafe_34 : decode bb_P_keepsKingSafe 34 = .ok (.aload_n 0, 1) := by decide +kernel
theorem dd_P_keepsKingSafe_35 : decode bb_P_keepsKingSafe 35 = .ok (.iload_n 1, 1) := by decide +kernel
theorem dd_P_keepsKingSafe_36 : decode bb_P_keepsKingSafe 36 = .ok (.iload_n 3, 1) := by decide +kernel
theorem dd_P_keepsKingSafe_37 : decode bb_P_keepsKingSafe 37 = .ok (.invokevirtual 91, 3) := by decide +kernel
theorem dd_P_keepsKingSafe_40 : decode bb_P_keepsKingSafe 40 = .ok (.iload 4, 2) := by decide +kernel
theorem dd_P_keepsKingSafe_42 : decode bb_P_keepsKingSafe 42 = .ok (.ireturn, 1) := by decide +kernel
abbrev ty_P_keepsKingSafe : Type := Int32 × Int32 × Int32 × Int32 × (Nat → Int32) × (Nat → Int32)
noncomputable def bk_P_keepsKingSafe_32 (a1 : Int32) (sd : Int32) (rt : Int32) (ps : Int32) (sq : Nat → Int32) (kg : Nat → Int32) (x3 : Int32) (s0 : Int32) : Option ty_P_keepsKingSafe := (fn_P_takeBack sd rt ps sq kg a1 x3).bind fun (sd_1001, rt_1002, ps_1003, sq_1004, kg_1005) => qq_ck (qq_b s0) <| some (s0, sd_1001, rt_1002, ps_1003, sq_1004, kg_1005)
noncomputable def fn_P_keepsKingSafe (sd : Int32) (rt : Int32) (ps : Int32) (sq : Nat → Int32) (kg : Nat → Int32) (a1 : Int32) : Option ty_P_keepsKingSafe := (fn_P_play sd rt ps sq kg a1).bind fun (r1, sd_2, rt_3, ps_4, sq_5, kg_6) => qq_ck (qq_in sd 2) <| (fn_P_isHitBy sq_5 (1 - sd) (kg_6 sd.toNatClampNeg)).bind fun r8 => if r8 = 0 then (bk_P_keepsKingSafe_32 a1 sd_2 rt_3 ps_4 sq_5 kg_6 r1 1) else (bk_P_keepsKingSafe_32 a1 sd_2 rt_3 ps_4 sq_5 kg_6 r1 0)
abbrev rm_P_keepsKingSafe : Room := { frames := 3, cells := 0, slots := 0, locals := 69 }
set_option maxHeartbeats 4000000 in
set_option maxRecDepth 100000 in
theorem ct_P_keepsKingSafe (l : Launch) (dC : Nat → ClassId) (dI : Nat → Nat → Nat) (cI cL cR : ClassId) (oP osq okg : Nat) (sd : Int32) (rt : Int32) (ps : Int32) (sq : Nat → Int32) (kg : Nat → Int32) (a1 : Int32) {rr : Int32} {sd' : Int32} {rt' : Int32} {ps' : Int32} {sq' : Nat → Int32} {kg' : Nat → Int32} (hf : fn_P_keepsKingSafe sd rt ps sq kg a1 = some (rr, sd', rt', ps', sq', kg')) : qq_det l yy_P_keepsKingSafe (ww_of yy_P_keepsKingSafe bb_P_keepsKingSafe 5 (some .boolean)) rm_P_keepsKingSafe (dC, dI) (qq_ty cI cL cR) [.ref oP, .int a1] [(oP, .inr (1, [.ref osq, .ref okg, .int sd, .int rt, .int ps])), (osq, .inl (cI, 64, .inl sq)), (okg, .inl (cI, 2, .inl kg))] (some (.int rr)) [(oP, .inr (1, [.ref osq, .ref okg, .int sd', .int rt', .int ps'])), (osq, .inl (cI, 64, .inl sq')), (okg, .inl (cI, 2, .inl kg'))] := by
  refine qq_of (own := RR_P) (by decide) rfl (Nat.le_of_ble_eq_true rfl) ?_
  intro p e s m below meth c A Q ls hx hb hml hr hlocks hown hts hK hA hT hN hP hD hS hl hQ
  have hl : lv_has ls 5 [(0, .ref oP), (1, .int a1)] := hl
  have hJ32 : ∀ (sd : Int32) (rt : Int32) (ps : Int32) (sq : Nat → Int32) (kg : Nat → Int32) (x3 : Int32) (s0 : Int32) (H : Heap) (locs : List Loc) (ls : Array Slot), lv_has ls 5 [(0, .ref oP), (1, .int a1), (3, .int x3)] → va_P (dC, dI) classes [(oP, .inr (1, [.ref osq, .ref okg, .int sd, .int rt, .int ps])), (osq, .inl (cI, 64, .inl sq)), (okg, .inl (cI, 2, .inl kg))] H → va_D A [(oP, .inr (1, [.ref osq, .ref okg, .int sd, .int rt, .int ps])), (osq, .inl (cI, 64, .inl sq)), (okg, .inl (cI, 2, .inl kg))] → va_S A s.heap H locs → bk_P_keepsKingSafe_32 a1 sd rt ps sq kg x3 s0 = some (rr, sd', rt', ps', sq', kg') → W p l e rm_P_keepsKingSafe s m ([.ref oP, .int a1] : List Value).toArray below meth c H locs 0 0 Q (F0 m 32 ls [.int s0]) := by
    intro sd rt ps sq kg x3 s0 H locs ls hl hP hD hS hf
    rw [bk_P_keepsKingSafe_32] at hf
    refine lv_istore (lv' := [(4, .int s0), (0, .ref oP), (1, .int a1), (3, .int x3)]) hx hb dd_P_keepsKingSafe_32 hl (by decide) rfl (fun ls hl => ?_)
    refine lv_aload_n hx hb dd_P_keepsKingSafe_34 rfl (lv_at hl 1 rfl) ?_
    refine lv_iload_n hx hb dd_P_keepsKingSafe_35 rfl (lv_at hl 2 rfl) ?_
    refine lv_iload_n hx hb dd_P_keepsKingSafe_36 rfl (lv_at hl 3 rfl) ?_
    obtain ⟨⟨sd_1001, rt_1002, ps_1003, sq_1004, kg_1005⟩, hy1005, hf⟩ := qq_bd hf
    dsimp only at hf
    refine qq_V (As := [.int a1, .int x3]) (rest := []) (wr := []) (wf := [(oP, .inr (1, [.ref osq, .ref okg, .int sd_1001, .int rt_1002, .int ps_1003])), (osq, .inl (cI, 64, .inl sq_1004)), (okg, .inl (cI, 2, .inl kg_1005))]) ⟨hx, hb, hml, hown, hts⟩ (ct_P_takeBack l dC dI cI cL cR oP osq okg sd rt ps sq kg a1 x3 hy1005) mm_127 mm_128 mm_129 mm_126 mm_15 hd_P_takeBack (by decide) qq_00 hP hD hK hS hA hT hN (q0 := 0) (ci := 1) rfl rfl [0, 1, 2] [] [0, 1, 2] rfl rfl rfl (by decide) rfl hl.1 rfl (Nat.le_of_ble_eq_true rfl) dd_P_keepsKingSafe_37 (fun H locs hP hD hS => ?_)
    refine W.eq (g2 := F0 m 40 ls []) rfl ?_
    refine lv_iload hx hb dd_P_keepsKingSafe_40 (lv_at hl 0 rfl) ?_
    obtain ⟨hzb, hf⟩ := qq_ckE hf
    cases hf
    exact qq_zret hx hb hr (qq_bE hzb) hlocks hQ hP hD hK hS dd_P_keepsKingSafe_42
  rw [fn_P_keepsKingSafe] at hf
  refine lv_aload_n hx hb dd_P_keepsKingSafe_0 rfl (lv_at hl 0 rfl) ?_
  refine va_get (D := (dC, dI)) (ci := 1) (v := .int sd) (C := RR_P) (T := FF_P) (N := 5) hx hb hts uu_P hown hK hP 0 rfl rfl 2 (by decide) (hts _ mm_12) (fun _ h9 => h9) rfl dd_P_keepsKingSafe_1 ?_
  refine lv_istore_n (lv' := [(2, .int sd), (0, .ref oP), (1, .int a1)]) hx hb dd_P_keepsKingSafe_4 rfl hl (by decide) rfl (fun ls hl => ?_)
  refine lv_aload_n hx hb dd_P_keepsKingSafe_5 rfl (lv_at hl 1 rfl) ?_
  refine lv_iload_n hx hb dd_P_keepsKingSafe_6 rfl (lv_at hl 2 rfl) ?_
  obtain ⟨⟨r1, sd_2, rt_3, ps_4, sq_5, kg_6⟩, hy6, hf⟩ := qq_bd hf
  dsimp only at hf
  refine qq_V (As := [.int a1]) (rest := []) (wr := []) (wf := [(oP, .inr (1, [.ref osq, .ref okg, .int sd_2, .int rt_3, .int ps_4])), (osq, .inl (cI, 64, .inl sq_5)), (okg, .inl (cI, 2, .inl kg_6))]) ⟨hx, hb, hml, hown, hts⟩ (ct_P_play l dC dI cI cL cR oP osq okg sd rt ps sq kg a1 hy6) mm_131 mm_132 mm_133 mm_130 mm_15 hd_P_play (by decide) qq_00 hP hD hK hS hA hT hN (q0 := 0) (ci := 1) rfl rfl [0, 1, 2] [] [0, 1, 2] rfl rfl rfl (by decide) rfl hl.1 rfl (Nat.le_of_ble_eq_true rfl) dd_P_keepsKingSafe_7 (fun H locs hP hD hS => ?_)
  refine W.eq (g2 := F0 m 10 ls [.int r1]) rfl ?_
  refine lv_istore_n (lv' := [(3, .int r1), (2, .int sd), (0, .ref oP), (1, .int a1)]) hx hb dd_P_keepsKingSafe_10 rfl hl (by decide) rfl (fun ls hl => ?_)
  refine lv_aload_n hx hb dd_P_keepsKingSafe_11 rfl (lv_at hl 2 rfl) ?_
  refine lv_iconst (v := 1) hx hb dd_P_keepsKingSafe_12 (by decide) ?_
  refine lv_iload_n hx hb dd_P_keepsKingSafe_13 rfl (lv_at hl 1 rfl) ?_
  refine lv_isub hx hb dd_P_keepsKingSafe_14 ?_
  refine lv_aload_n hx hb dd_P_keepsKingSafe_15 rfl (lv_at hl 2 rfl) ?_
  refine va_get (D := (dC, dI)) (ci := 1) (v := .ref okg) (C := RR_P) (T := FF_P) (N := 5) hx hb hts uu_P hown hK hP 0 rfl rfl 1 (by decide) (hts _ mm_93) (fun _ h9 => h9) rfl dd_P_keepsKingSafe_16 ?_
  refine lv_iload_n hx hb dd_P_keepsKingSafe_19 rfl (lv_at hl 1 rfl) ?_
  obtain ⟨hi7, hf⟩ := qq_ckE hf
  refine va_iald (D := (dC, dI)) (f := kg_6) (n := 2) (cA := cI) hx hb hK hP 2 0 rfl rfl (qq_inE hi7) dd_P_keepsKingSafe_20 ?_
  obtain ⟨r8, hy8, hf⟩ := qq_bd hf
  refine qq_V (As := [.int (1 - sd), .int (kg_6 sd.toNatClampNeg)]) (rest := []) (wr := []) (wf := [(oP, .inr (1, [.ref osq, .ref okg, .int sd_2, .int rt_3, .int ps_4])), (osq, .inl (cI, 64, .inl sq_5)), (okg, .inl (cI, 2, .inl kg_6))]) ⟨hx, hb, hml, hown, hts⟩ (ct_P_isHitBy l dC dI cI cL cR oP osq okg sd_2 rt_3 ps_4 sq_5 kg_6 (1 - sd) (kg_6 sd.toNatClampNeg) hy8) mm_82 mm_83 mm_84 mm_81 mm_15 hd_P_isHitBy (by decide) qq_00 hP hD hK hS hA hT hN (q0 := 0) (ci := 1) rfl rfl [0, 1, 2] [] [0, 1, 2] rfl rfl rfl (by decide) rfl hl.1 rfl (Nat.le_of_ble_eq_true rfl) dd_P_keepsKingSafe_21 (fun H locs hP hD hS => ?_)
  refine W.eq (g2 := F0 m 24 ls [.int r8]) rfl ?_
  refine lv_if_ne (tgt := 31) hx hb dd_P_keepsKingSafe_24 (by decide) (fun hc => ?_) (fun hc => ?_)
  · replace hf := qq_f hc hf
    refine lv_iconst (v := 0) hx hb dd_P_keepsKingSafe_31 (by decide) ?_
    exact hJ32 sd_2 rt_3 ps_4 sq_5 kg_6 r1 0 _ _ _ (lv_sub hl [2, 3, 0] rfl) hP hD hS hf
  · replace hf := qq_t hc hf
    refine lv_iconst (v := 1) hx hb dd_P_keepsKingSafe_27 (by decide) ?_
    refine lv_goto (tgt := 32) hx hb dd_P_keepsKingSafe_28 (by decide) ?_
    exact hJ32 sd_2 rt_3 ps_4 sq_5 kg_6 r1 1 _ _ _ (lv_sub hl [2, 3, 0] rfl) hP hD hS hf
theorem dd_P_listMoves_0 : decode bb_P_listMoves 0 = .ok (.aload_n 0, 1) := by decide +kernel
theorem dd_P_listMoves_1 : decode bb_P_listMoves 1 = .ok (.aload_n 1, 1) := by decide +kernel
theorem dd_P_listMoves_2 : decode bb_P_listMoves 2 = .ok (.invokevirtual 51, 3) := by decide +kernel
theorem dd_P_listMoves_5 : decode bb_P_listMoves 5 = .ok (.iconst 0, 1) := by decide +kernel
theorem dd_P_listMoves_6 : decode bb_P_listMoves 6 = .ok (.istore_n 2, 1) := by decide +kernel
theorem dd_P_listMoves_7 : decode bb_P_listMoves 7 = .ok (.iconst 0, 1) := by decide +kernel
theorem dd_P_listMoves_8 : decode bb_P_listMoves 8 = .ok (.istore_n 3, 1) := by decide +kernel
theorem dd_P_listMoves_9 : decode bb_P_listMoves 9 = .ok (.iload_n 3, 1) := by decide +kernel
theorem dd_P_listMoves_10 : decode bb_P_listMoves 10 = .ok (.aload_n 1, 1) := by decide +kernel
theorem dd_P_listMoves_11 : decode bb_P_listMoves 11 = .ok (.getfield 55, 3) := by decide +kernel
theorem dd_P_listMoves_14 : decode bb_P_listMoves 14 = .ok (.if_icmp .ge 37, 3) := by decide +kernel
theorem dd_P_listMoves_17 : decode bb_P_listMoves 17 = .ok (.aload_n 0, 1) := by decide +kernel
theorem dd_P_listMoves_18 : decode bb_P_listMoves 18 = .ok (.aload_n 1, 1) := by decide +kernel
theorem dd_P_listMoves_19 : decode bb_P_listMoves 19 = .ok (.getfield 61, 3) := by decide +kernel
theorem dd_P_listMoves_22 : decode bb_P_listMoves 22 = .ok (.iload_n 3, 1) := by decide +kernel
theorem dd_P_listMoves_23 : decode bb_P_listMoves 23 = .ok (.iaload, 1) := by decide +kernel
theorem dd_P_listMoves_24 : decode bb_P_listMoves 24 = .ok (.invokevirtual 64, 3) := by decide +kernel
theorem dd_P_listMoves_27 : decode bb_P_listMoves 27 = .ok (.ifCond .eq 18, 3) := by decide +kernel
theorem dd_P_listMoves_30 : decode bb_P_listMoves 30 = .ok (.aload_n 1, 1) := by decide +kernel
theorem dd_P_listMoves_31 : decode bb_P_listMoves 31 = .ok (.getfield 61, 3) := by decide +kernel
theorem dd_P_listMoves_34 : decode bb_P_listMoves 34 = .ok (.iload_n 2, 1) := by decide +kernel
theorem dd_P_listMoves_35 : decode bb_P_listMoves 35 = .ok (.aload_n 1, 1) := by decide +kernel
theorem dd_P_listMoves_36 : decode bb_P_listMoves 36 = .ok (.getfield 61, 3) := by decide +kernel
theorem dd_P_listMoves_39 : decode bb_P_listMoves 39 = .ok (.iload_n 3, 1) := by decide +kernel
theorem dd_P_listMoves_40 : decode bb_P_listMoves 40 = .ok (.iaload, 1) := by decide +kernel
theorem dd_P_listMoves_41 : decode bb_P_listMoves 41 = .ok (.iastore, 1) := by decide +kernel
theorem dd_P_listMoves_42 : decode bb_P_listMoves 42 = .ok (.iinc 2 1, 3) := by decide +kernel
theorem dd_P_listMoves_45 : decode bb_P_listMoves 45 = .ok (.iinc 3 1, 3) := by decide +kernel
theorem dd_P_listMoves_48 : decode bb_P_listMoves 48 = .ok (.goto (-39), 3) := by decide +kernel
theorem dd_P_listMoves_51 : decode bb_P_listMoves 51 = .ok (.aload_n 1, 1) := by decide +kernel
theorem dd_P_listMoves_52 : decode bb_P_listMoves 52 = .ok (.iload_n 2, 1) := by decide +kernel
theorem dd_P_listMoves_53 : decode bb_P_listMoves 53 = .ok (.putfield 55, 3) := by decide +kernel
theorem dd_P_listMoves_56 : decode bb_P_listMoves 56 = .ok (.iload_n 2, 1) := by decide +kernel
theorem dd_P_listMoves_57 : decode bb_P_listMoves 57 = .ok (.ireturn, 1) := by decide +kernel
abbrev ty_P_listMoves : Type := Int32 × Int32 × Int32 × Int32 × (Nat → Int32) × (Nat → Int32) × Int32 × (Nat → Int32)
noncomputable def bk_P_listMoves_45 (k9 : Int32 → Int32 → Int32 → (Nat → Int32) → (Nat → Int32) → Int32 → (Nat → Int32) → Int32 → Int32 → Option ty_P_listMoves) (sd : Int32) (rt : Int32) (ps : Int32) (sq : Nat → Int32) (kg : Nat → Int32) (rn : Int32) (rc : Nat → Int32) (x2 : Int32) (x3 : Int32) : Option ty_P_listMoves := qq_let (x3 + 1) fun v1001 => k9 sd rt ps sq kg rn rc x2 v1001
noncomputable def lo_P_listMoves_9 : Nat → Int32 → Int32 → Int32 → (Nat → Int32) → (Nat → Int32) → Int32 → (Nat → Int32) → Int32 → Int32 → Option ty_P_listMoves
  | 0, _, _, _, _, _, _, _, _, _ => none
  | n + 1, sd, rt, ps, sq, kg, rn, rc, x2, x3 => if rn ≤ x3 then (some (x2, sd, rt, ps, sq, kg, x2, rc)) else (qq_ck (qq_in x3 415) <| (fn_P_keepsKingSafe sd rt ps sq kg (rc x3.toNatClampNeg)).bind fun (r2002, sd_2003, rt_2004, ps_2005, sq_2006, kg_2007) => if r2002 = 0 then (bk_P_listMoves_45 (lo_P_listMoves_9  n) sd_2003 rt_2004 ps_2005 sq_2006 kg_2007 rn rc x2 x3) else (qq_ck (qq_in x3 415) <| qq_ck (qq_in x2 415) <| qq_let (upd rc x2.toNatClampNeg (rc x3.toNatClampNeg)) fun rc_2010 => qq_let (x2 + 1) fun v2011 => bk_P_listMoves_45 (lo_P_listMoves_9  n) sd_2003 rt_2004 ps_2005 sq_2006 kg_2007 rn rc_2010 v2011 x3))
theorem lo_P_listMoves_9_z (sd : Int32) (rt : Int32) (ps : Int32) (sq : Nat → Int32) (kg : Nat → Int32) (rn : Int32) (rc : Nat → Int32) (x2 : Int32) (x3 : Int32) : lo_P_listMoves_9  0 sd rt ps sq kg rn rc x2 x3 = none := rfl
theorem lo_P_listMoves_9_s (sd : Int32) (rt : Int32) (ps : Int32) (sq : Nat → Int32) (kg : Nat → Int32) (rn : Int32) (rc : Nat → Int32) (x2 : Int32) (x3 : Int32) (n : Nat) : lo_P_listMoves_9  (n + 1) sd rt ps sq kg rn rc x2 x3 = (if rn ≤ x3 then (some (x2, sd, rt, ps, sq, kg, x2, rc)) else (qq_ck (qq_in x3 415) <| (fn_P_keepsKingSafe sd rt ps sq kg (rc x3.toNatClampNeg)).bind fun (r2002, sd_2003, rt_2004, ps_2005, sq_2006, kg_2007) => if r2002 = 0 then (bk_P_listMoves_45 (lo_P_listMoves_9  n) sd_2003 rt_2004 ps_2005 sq_2006 kg_2007 rn rc x2 x3) else (qq_ck (qq_in x3 415) <| qq_ck (qq_in x2 415) <| qq_let (upd rc x2.toNatClampNeg (rc x3.toNatClampNeg)) fun rc_2010 => qq_let (x2 + 1) fun v2011 => bk_P_listMoves_45 (lo_P_listMoves_9  n) sd_2003 rt_2004 ps_2005 sq_2006 kg_2007 rn rc_2010 v2011 x3))) := rfl
noncomputable def fn_P_listMoves (sd : Int32) (rt : Int32) (ps : Int32) (sq : Nat → Int32) (kg : Nat → Int32) (rn : Int32) (rc : Nat → Int32) : Option ty_P_listMoves := (fn_P_listCandidates sd rt ps sq kg rn rc).bind fun (rn_1, rc_2) => lo_P_listMoves_9 qq_FU sd rt ps sq kg rn_1 rc_2 0 0
abbrev rm_P_listMoves : Room := { frames := 5, cells := 0, slots := 0, locals := 121 }
set_option maxHeartbeats 4000000 in
set_option maxRecDepth 100000 in
theorem ct_P_listMoves (l : Launch) (dC : Nat → ClassId) (dI : Nat → Nat → Nat) (cI cL cR : ClassId) (oP osq okg oW orc : Nat) (sd : Int32) (rt : Int32) (ps : Int32) (sq : Nat → Int32) (kg : Nat → Int32) (rn : Int32) (rc : Nat → Int32) {rr : Int32} {sd' : Int32} {rt' : Int32} {ps' : Int32} {sq' : Nat → Int32} {kg' : Nat → Int32} {rn' : Int32} {rc' : Nat → Int32} (hf : fn_P_listMoves sd rt ps sq kg rn rc = some (rr, sd', rt', ps', sq', kg', rn', rc')) : qq_det l yy_P_listMoves (ww_of yy_P_listMoves bb_P_listMoves 4 (some .int)) rm_P_listMoves (dC, dI) (qq_ty cI cL cR) [.ref oP, .ref oW] [(oP, .inr (1, [.ref osq, .ref okg, .int sd, .int rt, .int ps])), (osq, .inl (cI, 64, .inl sq)), (okg, .inl (cI, 2, .inl kg)), (oW, .inr (2, [.ref orc, .int rn])), (orc, .inl (cI, 415, .inl rc))] (some (.int rr)) [(oP, .inr (1, [.ref osq, .ref okg, .int sd', .int rt', .int ps'])), (osq, .inl (cI, 64, .inl sq')), (okg, .inl (cI, 2, .inl kg')), (oW, .inr (2, [.ref orc, .int rn'])), (orc, .inl (cI, 415, .inl rc'))] := by
  refine qq_of (own := RR_P) (by decide) rfl (Nat.le_of_ble_eq_true rfl) ?_
  intro p e s m below meth c A Q ls hx hb hml hr hlocks hown hts hK hA hT hN hP hD hS hl hQ
  have hl : lv_has ls 4 [(0, .ref oP), (1, .ref oW)] := hl
  have hL9 : ∀ (n9 : Nat) (sd : Int32) (rt : Int32) (ps : Int32) (sq : Nat → Int32) (kg : Nat → Int32) (rn : Int32) (rc : Nat → Int32) (x2 : Int32) (x3 : Int32) (H : Heap) (locs : List Loc) (ls : Array Slot), lv_has ls 4 [(0, .ref oP), (1, .ref oW), (2, .int x2), (3, .int x3)] → va_P (dC, dI) classes [(oP, .inr (1, [.ref osq, .ref okg, .int sd, .int rt, .int ps])), (osq, .inl (cI, 64, .inl sq)), (okg, .inl (cI, 2, .inl kg)), (oW, .inr (2, [.ref orc, .int rn])), (orc, .inl (cI, 415, .inl rc))] H → va_D A [(oP, .inr (1, [.ref osq, .ref okg, .int sd, .int rt, .int ps])), (osq, .inl (cI, 64, .inl sq)), (okg, .inl (cI, 2, .inl kg)), (oW, .inr (2, [.ref orc, .int rn])), (orc, .inl (cI, 415, .inl rc))] → va_S A s.heap H locs → lo_P_listMoves_9 n9 sd rt ps sq kg rn rc x2 x3 = some (rr, sd', rt', ps', sq', kg', rn', rc') → W p l e rm_P_listMoves s m ([.ref oP, .ref oW] : List Value).toArray below meth c H locs 0 0 Q (F0 m 9 ls []) := by
    intro n9
    induction n9 with
    | zero => exact fun sd rt ps sq kg rn rc x2 x3 H locs ls hl hP hD hS hf => absurd hf (by rw [lo_P_listMoves_9_z]; exact fun h => by cases h)
    | succ n9 ih9 =>
      have hJ45 : ∀ (sd : Int32) (rt : Int32) (ps : Int32) (sq : Nat → Int32) (kg : Nat → Int32) (rn : Int32) (rc : Nat → Int32) (x2 : Int32) (x3 : Int32) (H : Heap) (locs : List Loc) (ls : Array Slot), lv_has ls 4 [(0, .ref oP), (1, .ref oW), (2, .int x2), (3, .int x3)] → va_P (dC, dI) classes [(oP, .inr (1, [.ref osq, .ref okg, .int sd, .int rt, .int ps])), (osq, .inl (cI, 64, .inl sq)), (okg, .inl (cI, 2, .inl kg)), (oW, .inr (2, [.ref orc, .int rn])), (orc, .inl (cI, 415, .inl rc))] H → va_D A [(oP, .inr (1, [.ref osq, .ref okg, .int sd, .int rt, .int ps])), (osq, .inl (cI, 64, .inl sq)), (okg, .inl (cI, 2, .inl kg)), (oW, .inr (2, [.ref orc, .int rn])), (orc, .inl (cI, 415, .inl rc))] → va_S A s.heap H locs → bk_P_listMoves_45 (lo_P_listMoves_9 n9) sd rt ps sq kg rn rc x2 x3 = some (rr, sd', rt', ps', sq', kg', rn', rc') → W p l e rm_P_listMoves s m ([.ref oP, .ref oW] : List Value).toArray below meth c H locs 0 0 Q (F0 m 45 ls []) := by
        intro sd rt ps sq kg rn rc x2 x3 H locs ls hl hP hD hS hf
        rw [bk_P_listMoves_45] at hf
        obtain ⟨v1001, ev1001⟩ : ∃ z, z = x3 + 1 := ⟨_, rfl⟩
        replace hf := qq_lt ev1001 hf
        refine lv_iinc (k := 3) (v := v1001) (lv' := [(3, .int v1001), (0, .ref oP), (1, .ref oW), (2, .int x2)]) hx hb dd_P_listMoves_45 hl rfl (by rw [ev1001]; exact congrArg _ (by decide)) (by decide) rfl (fun ls hl => ?_)
        refine lv_goto (tgt := 9) hx hb dd_P_listMoves_48 (by decide) ?_
        exact ih9 sd rt ps sq kg rn rc x2 v1001 _ _ _ (lv_sub hl [1, 2, 3, 0] rfl) hP hD hS hf
      intro sd rt ps sq kg rn rc x2 x3 H locs ls hl hP hD hS hf
      rw [lo_P_listMoves_9_s] at hf
      refine lv_iload_n hx hb dd_P_listMoves_9 rfl (lv_at hl 3 rfl) ?_
      refine lv_aload_n hx hb dd_P_listMoves_10 rfl (lv_at hl 1 rfl) ?_
      refine va_get (D := (dC, dI)) (ci := 2) (v := .int rn) (C := RR_W) (T := FF_W) (N := 2) hx hb hts uu_W hown hK hP 3 rfl rfl 1 (by decide) (hts _ mm_106) (fun _ h9 => h9) rfl dd_P_listMoves_11 ?_
      refine lv_icmp_ge (tgt := 51) hx hb dd_P_listMoves_14 (by decide) (fun hc => ?_) (fun hc => ?_)
      · replace hf := qq_t hc hf
        refine lv_aload_n hx hb dd_P_listMoves_51 rfl (lv_at hl 1 rfl) ?_
        refine lv_iload_n hx hb dd_P_listMoves_52 rfl (lv_at hl 2 rfl) ?_
        refine va_put (D := (dC, dI)) (ci := 2) (v := .int x2) (ty := .int) (C := RR_W) (T := FF_W) (N := 2) hx hb hts uu_W tt_W tt_W_ok nn_W hown hK hP hD hS 3 rfl rfl 1 (by decide) (hts _ mm_106) (fun _ h9 => h9) rfl (by decide +kernel) rfl rfl (Nat.le_of_ble_eq_true rfl) dd_P_listMoves_53 (fun H locs hP hD hS => ?_)
        have hP : va_P (dC, dI) classes [(oP, .inr (1, [.ref osq, .ref okg, .int sd, .int rt, .int ps])), (osq, .inl (cI, 64, .inl sq)), (okg, .inl (cI, 2, .inl kg)), (oW, .inr (2, [.ref orc, .int x2])), (orc, .inl (cI, 415, .inl rc))] H := hP
        have hD : va_D A [(oP, .inr (1, [.ref osq, .ref okg, .int sd, .int rt, .int ps])), (osq, .inl (cI, 64, .inl sq)), (okg, .inl (cI, 2, .inl kg)), (oW, .inr (2, [.ref orc, .int x2])), (orc, .inl (cI, 415, .inl rc))] := hD
        refine lv_iload_n hx hb dd_P_listMoves_56 rfl (lv_at hl 2 rfl) ?_
        cases hf
        exact qq_iret hx hb hr hlocks hQ hP hD hK hS dd_P_listMoves_57
      · replace hf := qq_f hc hf
        refine lv_aload_n hx hb dd_P_listMoves_17 rfl (lv_at hl 0 rfl) ?_
        refine lv_aload_n hx hb dd_P_listMoves_18 rfl (lv_at hl 1 rfl) ?_
        refine va_get (D := (dC, dI)) (ci := 2) (v := .ref orc) (C := RR_W) (T := FF_W) (N := 2) hx hb hts uu_W hown hK hP 3 rfl rfl 0 (by decide) (hts _ mm_134) (fun _ h9 => h9) rfl dd_P_listMoves_19 ?_
        refine lv_iload_n hx hb dd_P_listMoves_22 rfl (lv_at hl 3 rfl) ?_
        obtain ⟨hi2001, hf⟩ := qq_ckE hf
        refine va_iald (D := (dC, dI)) (f := rc) (n := 415) (cA := cI) hx hb hK hP 4 0 rfl rfl (qq_inE hi2001) dd_P_listMoves_23 ?_
        obtain ⟨⟨r2002, sd_2003, rt_2004, ps_2005, sq_2006, kg_2007⟩, hy2007, hf⟩ := qq_bd hf
        dsimp only at hf
        refine qq_V (As := [.int (rc x3.toNatClampNeg)]) (rest := []) (wr := [(oW, .inr (2, [.ref orc, .int rn])), (orc, .inl (cI, 415, .inl rc))]) (wf := [(oP, .inr (1, [.ref osq, .ref okg, .int sd_2003, .int rt_2004, .int ps_2005])), (osq, .inl (cI, 64, .inl sq_2006)), (okg, .inl (cI, 2, .inl kg_2007)), (oW, .inr (2, [.ref orc, .int rn])), (orc, .inl (cI, 415, .inl rc))]) ⟨hx, hb, hml, hown, hts⟩ (ct_P_keepsKingSafe l dC dI cI cL cR oP osq okg sd rt ps sq kg (rc x3.toNatClampNeg) hy2007) mm_136 mm_137 mm_138 mm_135 mm_15 hd_P_keepsKingSafe (by decide) qq_00 hP hD hK hS hA hT hN (q0 := 0) (ci := 1) rfl rfl [0, 1, 2] [3, 4] [2, 3, 4, 0, 1] rfl rfl rfl (by decide) rfl hl.1 rfl (Nat.le_of_ble_eq_true rfl) dd_P_listMoves_24 (fun H locs hP hD hS => ?_)
        refine W.eq (g2 := F0 m 27 ls [.int r2002]) rfl ?_
        refine lv_if_eq (tgt := 45) hx hb dd_P_listMoves_27 (by decide) (fun hc => ?_) (fun hc => ?_)
        · replace hf := qq_t hc hf
          exact hJ45 sd_2003 rt_2004 ps_2005 sq_2006 kg_2007 rn rc x2 x3 _ _ _ (lv_sub hl [0, 1, 2, 3] rfl) hP hD hS hf
        · replace hf := qq_f hc hf
          refine lv_aload_n hx hb dd_P_listMoves_30 rfl (lv_at hl 1 rfl) ?_
          refine va_get (D := (dC, dI)) (ci := 2) (v := .ref orc) (C := RR_W) (T := FF_W) (N := 2) hx hb hts uu_W hown hK hP 3 rfl rfl 0 (by decide) (hts _ mm_134) (fun _ h9 => h9) rfl dd_P_listMoves_31 ?_
          refine lv_iload_n hx hb dd_P_listMoves_34 rfl (lv_at hl 2 rfl) ?_
          refine lv_aload_n hx hb dd_P_listMoves_35 rfl (lv_at hl 1 rfl) ?_
          refine va_get (D := (dC, dI)) (ci := 2) (v := .ref orc) (C := RR_W) (T := FF_W) (N := 2) hx hb hts uu_W hown hK hP 3 rfl rfl 0 (by decide) (hts _ mm_134) (fun _ h9 => h9) rfl dd_P_listMoves_36 ?_
          refine lv_iload_n hx hb dd_P_listMoves_39 rfl (lv_at hl 3 rfl) ?_
          obtain ⟨hi2008, hf⟩ := qq_ckE hf
          refine va_iald (D := (dC, dI)) (f := rc) (n := 415) (cA := cI) hx hb hK hP 4 0 rfl rfl (qq_inE hi2008) dd_P_listMoves_40 ?_
          obtain ⟨hi2009, hf⟩ := qq_ckE hf
          refine va_iast (D := (dC, dI)) (f := rc) (n := 415) (cA := cI) hx hb hK hP hD hS 4 0 rfl rfl (qq_inE hi2009) dd_P_listMoves_41 (fun H locs hP hD hS => ?_)
          obtain ⟨rc_2010, erc_2010⟩ : ∃ z, z = upd rc x2.toNatClampNeg (rc x3.toNatClampNeg) := ⟨_, rfl⟩
          replace hf := qq_lt erc_2010 hf
          have hP : va_P (dC, dI) classes [(oP, .inr (1, [.ref osq, .ref okg, .int sd_2003, .int rt_2004, .int ps_2005])), (osq, .inl (cI, 64, .inl sq_2006)), (okg, .inl (cI, 2, .inl kg_2007)), (oW, .inr (2, [.ref orc, .int rn])), (orc, .inl (cI, 415, .inl rc_2010))] H := by rw [erc_2010]; exact hP
          have hD : va_D A [(oP, .inr (1, [.ref osq, .ref okg, .int sd_2003, .int rt_2004, .int ps_2005])), (osq, .inl (cI, 64, .inl sq_2006)), (okg, .inl (cI, 2, .inl kg_2007)), (oW, .inr (2, [.ref orc, .int rn])), (orc, .inl (cI, 415, .inl rc_2010))] := by rw [erc_2010]; exact hD
          obtain ⟨v2011, ev2011⟩ : ∃ z, z = x2 + 1 := ⟨_, rfl⟩
          replace hf := qq_lt ev2011 hf
          refine lv_iinc (k := 2) (v := v2011) (lv' := [(2, .int v2011), (0, .ref oP), (1, .ref oW), (3, .int x3)]) hx hb dd_P_listMoves_42 hl rfl (by rw [ev2011]; exact congrArg _ (by decide)) (by decide) rfl (fun ls hl => ?_)
          exact hJ45 sd_2003 rt_2004 ps_2005 sq_2006 kg_2007 rn rc_2010 v2011 x3 _ _ _ (lv_sub hl [1, 2, 0, 3] rfl) hP hD hS hf
  rw [fn_P_listMoves] at hf
  refine lv_aload_n hx hb dd_P_listMoves_0 rfl (lv_at hl 0 rfl) ?_
  refine lv_aload_n hx hb dd_P_listMoves_1 rfl (lv_at hl 1 rfl) ?_
  obtain ⟨⟨rn_1, rc_2⟩, hy2, hf⟩ := qq_bd hf
  dsimp only at hf
  refine qq_V (As := [.ref oW]) (rest := []) (wr := []) (wf := [(oP, .inr (1, [.ref osq, .ref okg, .int sd, .int rt, .int ps])), (osq, .inl (cI, 64, .inl sq)), (okg, .inl (cI, 2, .inl kg)), (oW, .inr (2, [.ref orc, .int rn_1])), (orc, .inl (cI, 415, .inl rc_2))]) ⟨hx, hb, hml, hown, hts⟩ (ct_P_listCandidates l dC dI cI cL cR oP osq okg oW orc sd rt ps sq kg rn rc hy2) mm_140 mm_141 mm_142 mm_139 mm_15 hd_P_listCandidates (by decide) qq_00 hP hD hK hS hA hT hN (q0 := 0) (ci := 1) rfl rfl [0, 1, 2, 3, 4] [] [0, 1, 2, 3, 4] rfl rfl rfl (by decide) rfl hl.1 rfl (Nat.le_of_ble_eq_true rfl) dd_P_listMoves_2 (fun H locs hP hD hS => ?_)
  refine W.eq (g2 := F0 m 5 ls []) rfl ?_
  refine lv_iconst (v := 0) hx hb dd_P_listMoves_5 (by decide) ?_
  refine lv_istore_n (lv' := [(2, .int 0), (0, .ref oP), (1, .ref oW)]) hx hb dd_P_listMoves_6 rfl hl (by decide) rfl (fun ls hl => ?_)
  refine lv_iconst (v := 0) hx hb dd_P_listMoves_7 (by decide) ?_
  refine lv_istore_n (lv' := [(3, .int 0), (2, .int 0), (0, .ref oP), (1, .ref oW)]) hx hb dd_P_listMoves_8 rfl hl (by decide) rfl (fun ls hl => ?_)
  exact hL9 qq_FU sd rt ps sq kg rn_1 rc_2 0 0 _ _ _ (lv_sub hl [2, 3, 1, 0] rfl) hP hD hS hf
theorem dd_B_isThere_0 : decode bb_B_isThere 0 = .ok (.iload_n 1, 1) := by decide +kernel
theorem dd_B_isThere_1 : decode bb_B_isThere 1 = .ok (.invokestatic 61, 3) := by decide +kernel
theorem dd_B_isThere_4 : decode bb_B_isThere 4 = .ok (.ifCond .eq 19, 3) := by decide +kernel
theorem dd_B_isThere_7 : decode bb_B_isThere 7 = .ok (.iload_n 2, 1) := by decide +kernel
theorem dd_B_isThere_8 : decode bb_B_isThere 8 = .ok (.invokestatic 61, 3) := by decide +kernel
theorem dd_B_isThere_11 : decode bb_B_isThere 11 = .ok (.ifCond .eq 12, 3) := by decide +kernel
theorem dd_B_isThere_14 : decode bb_B_isThere 14 = .ok (.iload_n 3, 1) := by decide +kernel
theorem dd_B_isThere_15 : decode bb_B_isThere 15 = .ok (.ifCond .lt 8, 3) := by decide +kernel
theorem dd_B_isThere_18 : decode bb_B_isThere 18 = .ok (.iload_n 3, 1) := by decide +kernel
theorem dd_B_isThere_19 : decode bb_B_isThere 19 = .ok (.iconst 5, 1) := by decide +kernel
theorem dd_B_isThere_20 : decode bb_B_isThere 20 = .ok (.if_icmp .le 5, 3) := by decide +kernel
theorem dd_B_isThere_23 : decode bb_B_isThere 23 = .ok (.iconst 0, 1) := by decide +kernel
theorem dd_B_isThere_24 : decode bb_B_isThere 24 = .ok (.ireturn, 1) := by decide +kernel
theorem dd_B_isThere_25 : decode bb_B_isThere 25 = .ok (.aload_n 0, 1) := by decide +kernel
theorem dd_B_isThere_26 : decode bb_B_isThere 26 = .ok (.getfield 10, 3) := by decide +kernel
theorem dd_B_isThere_29 : decode bb_B_isThere 29 = .ok (.aload_n 0, 1) := by decide +kernel
theorem dd_B_isThere_30 : decode bb_B_isThere 30 = .ok (.getfield 26, 3) := by decide +kernel
theorem dd_B_isThere_33 : decode bb_B_isThere 33 = .ok (.invokevirtual 80, 3) := by decide +kernel
theorem dd_B_isThere_36 : decode bb_B_isThere 36 = .ok (.pop, 1) := by decide +kernel
theorem dd_B_isThere_37 : decode bb_B_isThere 37 = .ok (.aload_n 0, 1) := by decide +kernel
theorem dd_B_isThere_38 : decode bb_B_isThere 38 = .ok (.getfield 26, 3) := by decide +kernel
theorem dd_B_isThere_41 : decode bb_B_isThere 41 = .ok (.iload_n 1, 1) := by decide +kernel
theorem dd_B_isThere_42 : decode bb_B_isThere 42 = .ok (.iload_n 2, 1) := by decide +kernel
theorem dd_B_isThere_43 : decode bb_B_isThere 43 = .ok (.iload_n 3, 1) := by decide +kernel
theorem dd_B_isThere_44 : decode bb_B_isThere 44 = .ok (.invokestatic 102, 3) := by decide +kernel
theorem dd_B_isThere_47 : decode bb_B_isThere 47 = .ok (.invokevirtual 173, 3) := by decide +kernel
theorem dd_B_isThere_50 : decode bb_B_isThere 50 = .ok (.ireturn, 1) := by decide +kernel
abbrev ty_B_isThere : Type := Int32 × Int32 × Int32 × Int32 × (Nat → Int32) × (Nat → Int32) × Int32 × (Nat → Int32)
noncomputable def bk_B_isThere_23 (a1 : Int32) (a2 : Int32) (a3 : Int32) (sd : Int32) (rt : Int32) (ps : Int32) (sq : Nat → Int32) (kg : Nat → Int32) (rn : Int32) (rc : Nat → Int32) : Option ty_B_isThere := some (0, sd, rt, ps, sq, kg, rn, rc)
noncomputable def fn_B_isThere (sd : Int32) (rt : Int32) (ps : Int32) (sq : Nat → Int32) (kg : Nat → Int32) (rn : Int32) (rc : Nat → Int32) (a1 : Int32) (a2 : Int32) (a3 : Int32) : Option ty_B_isThere := (fn_B_isSquare a1).bind fun r1 => if r1 = 0 then (bk_B_isThere_23 a1 a2 a3 sd rt ps sq kg rn rc) else ((fn_B_isSquare a2).bind fun r2 => if r2 = 0 then (bk_B_isThere_23 a1 a2 a3 sd rt ps sq kg rn rc) else (if a3 < 0 then (bk_B_isThere_23 a1 a2 a3 sd rt ps sq kg rn rc) else (if a3 ≤ 5 then ((fn_P_listMoves sd rt ps sq kg rn rc).bind fun (r3, sd_4, rt_5, ps_6, sq_7, kg_8, rn_9, rc_10) => (fn_B_codeOf a1 a2 a3).bind fun r11 => (fn_W_holds rn_9 rc_10 r11).bind fun r12 => qq_ck (qq_b r12) <| some (r12, sd_4, rt_5, ps_6, sq_7, kg_8, rn_9, rc_10)) else (bk_B_isThere_23 a1 a2 a3 sd rt ps sq kg rn rc))))
abbrev rm_B_isThere : Room := { frames := 6, cells := 0, slots := 0, locals := 144 }
set_option maxHeartbeats 4000000 in
set_option maxRecDepth 100000 in
theorem ct_B_isThere (l : Launch) (dC : Nat → ClassId) (dI : Nat → Nat → Nat) (cI cL cR : ClassId) (oB oP osq okg oH obo oma oqt oyc oyb oW orc oS orows oR0 orc0 oR1 orc1 oR2 orc2 oR3 orc3 : Nat) (pl : Int32) (sd : Int32) (rt : Int32) (ps : Int32) (sq : Nat → Int32) (kg : Nat → Int32) (md : Int32) (bo : Nat → Int64) (ma : Nat → Int32) (qt : Nat → Int32) (yc : Nat → Int32) (yb : Nat → Int32) (rn : Int32) (rc : Nat → Int32) (rn0 : Int32) (rc0 : Nat → Int32) (rn1 : Int32) (rc1 : Nat → Int32) (rn2 : Int32) (rc2 : Nat → Int32) (rn3 : Int32) (rc3 : Nat → Int32) (a1 : Int32) (a2 : Int32) (a3 : Int32) {rr : Int32} {sd' : Int32} {rt' : Int32} {ps' : Int32} {sq' : Nat → Int32} {kg' : Nat → Int32} {rn' : Int32} {rc' : Nat → Int32} (hf : fn_B_isThere sd rt ps sq kg rn rc a1 a2 a3 = some (rr, sd', rt', ps', sq', kg', rn', rc')) : qq_det l yy_B_isThere (ww_of yy_B_isThere bb_B_isThere 4 (some .boolean)) rm_B_isThere (dC, dI) (qq_ty cI cL cR) [.ref oB, .int a1, .int a2, .int a3] [(oB, .inr (0, [.ref oP, .ref oH, .ref oW, .ref oS, .int pl])), (oP, .inr (1, [.ref osq, .ref okg, .int sd, .int rt, .int ps])), (osq, .inl (cI, 64, .inl sq)), (okg, .inl (cI, 2, .inl kg)), (oH, .inr (3, [.ref obo, .ref oma, .ref oqt, .ref oyc, .ref oyb, .int md])), (obo, .inl (cL, 604, .inr (.inl bo))), (oma, .inl (cI, 151, .inl ma)), (oqt, .inl (cI, 151, .inl qt)), (oyc, .inl (cI, 150, .inl yc)), (oyb, .inl (cI, 150, .inl yb)), (oW, .inr (2, [.ref orc, .int rn])), (orc, .inl (cI, 415, .inl rc)), (oS, .inr (4, [.ref orows])), (orows, .inl (cR, 4, .inr (.inr (.inr (.inr (qq_rows oR0 oR1 oR2 oR3)))))), (oR0, .inr (2, [.ref orc0, .int rn0])), (orc0, .inl (cI, 415, .inl rc0)), (oR1, .inr (2, [.ref orc1, .int rn1])), (orc1, .inl (cI, 415, .inl rc1)), (oR2, .inr (2, [.ref orc2, .int rn2])), (orc2, .inl (cI, 415, .inl rc2)), (oR3, .inr (2, [.ref orc3, .int rn3])), (orc3, .inl (cI, 415, .inl rc3))] (some (.int rr)) [(oB, .inr (0, [.ref oP, .ref oH, .ref oW, .ref oS, .int pl])), (oP, .inr (1, [.ref osq, .ref okg, .int sd', .int rt', .int ps'])), (osq, .inl (cI, 64, .inl sq')), (okg, .inl (cI, 2, .inl kg')), (oH, .inr (3, [.ref obo, .ref oma, .ref oqt, .ref oyc, .ref oyb, .int md])), (obo, .inl (cL, 604, .inr (.inl bo))), (oma, .inl (cI, 151, .inl ma)), (oqt, .inl (cI, 151, .inl qt)), (oyc, .inl (cI, 150, .inl yc)), (oyb, .inl (cI, 150, .inl yb)), (oW, .inr (2, [.ref orc, .int rn'])), (orc, .inl (cI, 415, .inl rc')), (oS, .inr (4, [.ref orows])), (orows, .inl (cR, 4, .inr (.inr (.inr (.inr (qq_rows oR0 oR1 oR2 oR3)))))), (oR0, .inr (2, [.ref orc0, .int rn0])), (orc0, .inl (cI, 415, .inl rc0)), (oR1, .inr (2, [.ref orc1, .int rn1])), (orc1, .inl (cI, 415, .inl rc1)), (oR2, .inr (2, [.ref orc2, .int rn2])), (orc2, .inl (cI, 415, .inl rc2)), (oR3, .inr (2, [.ref orc3, .int rn3])), (orc3, .inl (cI, 415, .inl rc3))] := by
  refine qq_of (own := RR_B) (by decide) rfl (Nat.le_of_ble_eq_true rfl) ?_
  intro p e s m below meth c A Q ls hx hb hml hr hlocks hown hts hK hA hT hN hP hD hS hl hQ
  have hl : lv_has ls 4 [(0, .ref oB), (1, .int a1), (2, .int a2), (3, .int a3)] := hl
  have hJ23 : ∀ (sd : Int32) (rt : Int32) (ps : Int32) (sq : Nat → Int32) (kg : Nat → Int32) (rn : Int32) (rc : Nat → Int32) (H : Heap) (locs : List Loc) (ls : Array Slot), lv_has ls 4 [] → va_P (dC, dI) classes [(oB, .inr (0, [.ref oP, .ref oH, .ref oW, .ref oS, .int pl])), (oP, .inr (1, [.ref osq, .ref okg, .int sd, .int rt, .int ps])), (osq, .inl (cI, 64, .inl sq)), (okg, .inl (cI, 2, .inl kg)), (oH, .inr (3, [.ref obo, .ref oma, .ref oqt, .ref oyc, .ref oyb, .int md])), (obo, .inl (cL, 604, .inr (.inl bo))), (oma, .inl (cI, 151, .inl ma)), (oqt, .inl (cI, 151, .inl qt)), (oyc, .inl (cI, 150, .inl yc)), (oyb, .inl (cI, 150, .inl yb)), (oW, .inr (2, [.ref orc, .int rn])), (orc, .inl (cI, 415, .inl rc)), (oS, .inr (4, [.ref orows])), (orows, .inl (cR, 4, .inr (.inr (.inr (.inr (qq_rows oR0 oR1 oR2 oR3)))))), (oR0, .inr (2, [.ref orc0, .int rn0])), (orc0, .inl (cI, 415, .inl rc0)), (oR1, .inr (2, [.ref orc1, .int rn1])), (orc1, .inl (cI, 415, .inl rc1)), (oR2, .inr (2, [.ref orc2, .int rn2])), (orc2, .inl (cI, 415, .inl rc2)), (oR3, .inr (2, [.ref orc3, .int rn3])), (orc3, .inl (cI, 415, .inl rc3))] H → va_D A [(oB, .inr (0, [.ref oP, .ref oH, .ref oW, .ref oS, .int pl])), (oP, .inr (1, [.ref osq, .ref okg, .int sd, .int rt, .int ps])), (osq, .inl (cI, 64, .inl sq)), (okg, .inl (cI, 2, .inl kg)), (oH, .inr (3, [.ref obo, .ref oma, .ref oqt, .ref oyc, .ref oyb, .int md])), (obo, .inl (cL, 604, .inr (.inl bo))), (oma, .inl (cI, 151, .inl ma)), (oqt, .inl (cI, 151, .inl qt)), (oyc, .inl (cI, 150, .inl yc)), (oyb, .inl (cI, 150, .inl yb)), (oW, .inr (2, [.ref orc, .int rn])), (orc, .inl (cI, 415, .inl rc)), (oS, .inr (4, [.ref orows])), (orows, .inl (cR, 4, .inr (.inr (.inr (.inr (qq_rows oR0 oR1 oR2 oR3)))))), (oR0, .inr (2, [.ref orc0, .int rn0])), (orc0, .inl (cI, 415, .inl rc0)), (oR1, .inr (2, [.ref orc1, .int rn1])), (orc1, .inl (cI, 415, .inl rc1)), (oR2, .inr (2, [.ref orc2, .int rn2])), (orc2, .inl (cI, 415, .inl rc2)), (oR3, .inr (2, [.ref orc3, .int rn3])), (orc3, .inl (cI, 415, .inl rc3))] → va_S A s.heap H locs → bk_B_isThere_23 a1 a2 a3 sd rt ps sq kg rn rc = some (rr, sd', rt', ps', sq', kg', rn', rc') → W p l e rm_B_isThere s m ([.ref oB, .int a1, .int a2, .int a3] : List Value).toArray below meth c H locs 0 0 Q (F0 m 23 ls []) := by
    intro sd rt ps sq kg rn rc H locs ls hl hP hD hS hf
    rw [bk_B_isThere_23] at hf
    refine lv_iconst (v := 0) hx hb dd_B_isThere_23 (by decide) ?_
    cases hf
    exact qq_zret hx hb hr rfl hlocks hQ hP hD hK hS dd_B_isThere_24
  rw [fn_B_isThere] at hf
  refine lv_iload_n hx hb dd_B_isThere_0 rfl (lv_at hl 1 rfl) ?_
  obtain ⟨r1, hy1, hf⟩ := qq_bd hf
  refine qq_S (As := [.int a1]) (rest := []) (wr := [(oB, .inr (0, [.ref oP, .ref oH, .ref oW, .ref oS, .int pl])), (oP, .inr (1, [.ref osq, .ref okg, .int sd, .int rt, .int ps])), (osq, .inl (cI, 64, .inl sq)), (okg, .inl (cI, 2, .inl kg)), (oH, .inr (3, [.ref obo, .ref oma, .ref oqt, .ref oyc, .ref oyb, .int md])), (obo, .inl (cL, 604, .inr (.inl bo))), (oma, .inl (cI, 151, .inl ma)), (oqt, .inl (cI, 151, .inl qt)), (oyc, .inl (cI, 150, .inl yc)), (oyb, .inl (cI, 150, .inl yb)), (oW, .inr (2, [.ref orc, .int rn])), (orc, .inl (cI, 415, .inl rc)), (oS, .inr (4, [.ref orows])), (orows, .inl (cR, 4, .inr (.inr (.inr (.inr (qq_rows oR0 oR1 oR2 oR3)))))), (oR0, .inr (2, [.ref orc0, .int rn0])), (orc0, .inl (cI, 415, .inl rc0)), (oR1, .inr (2, [.ref orc1, .int rn1])), (orc1, .inl (cI, 415, .inl rc1)), (oR2, .inr (2, [.ref orc2, .int rn2])), (orc2, .inl (cI, 415, .inl rc2)), (oR3, .inr (2, [.ref orc3, .int rn3])), (orc3, .inl (cI, 415, .inl rc3))]) (wf := [(oB, .inr (0, [.ref oP, .ref oH, .ref oW, .ref oS, .int pl])), (oP, .inr (1, [.ref osq, .ref okg, .int sd, .int rt, .int ps])), (osq, .inl (cI, 64, .inl sq)), (okg, .inl (cI, 2, .inl kg)), (oH, .inr (3, [.ref obo, .ref oma, .ref oqt, .ref oyc, .ref oyb, .int md])), (obo, .inl (cL, 604, .inr (.inl bo))), (oma, .inl (cI, 151, .inl ma)), (oqt, .inl (cI, 151, .inl qt)), (oyc, .inl (cI, 150, .inl yc)), (oyb, .inl (cI, 150, .inl yb)), (oW, .inr (2, [.ref orc, .int rn])), (orc, .inl (cI, 415, .inl rc)), (oS, .inr (4, [.ref orows])), (orows, .inl (cR, 4, .inr (.inr (.inr (.inr (qq_rows oR0 oR1 oR2 oR3)))))), (oR0, .inr (2, [.ref orc0, .int rn0])), (orc0, .inl (cI, 415, .inl rc0)), (oR1, .inr (2, [.ref orc1, .int rn1])), (orc1, .inl (cI, 415, .inl rc1)), (oR2, .inr (2, [.ref orc2, .int rn2])), (orc2, .inl (cI, 415, .inl rc2)), (oR3, .inr (2, [.ref orc3, .int rn3])), (orc3, .inl (cI, 415, .inl rc3))]) ⟨hx, hb, hml, hown, hts⟩ (ct_B_isSquare l dC dI cI cL cR a1 hy1) mm_2 mm_3 mm_0 mm_1 hd_B_isSquare (by decide) qq_00 hP hD hK hS hA hT hN [] [0, 1, 2, 3, 4, 5, 6, 7, 8, 9, 10, 11, 12, 13, 14, 15, 16, 17, 18, 19, 20, 21] [0, 1, 2, 3, 4, 5, 6, 7, 8, 9, 10, 11, 12, 13, 14, 15, 16, 17, 18, 19, 20, 21] rfl rfl rfl (by decide) rfl hl.1 rfl (Nat.le_of_ble_eq_true rfl) dd_B_isThere_1 (fun H locs hP hD hS => ?_)
  refine W.eq (g2 := F0 m 4 ls [.int r1]) rfl ?_
  refine lv_if_eq (tgt := 23) hx hb dd_B_isThere_4 (by decide) (fun hc => ?_) (fun hc => ?_)
  · replace hf := qq_t hc hf
    exact hJ23 sd rt ps sq kg rn rc _ _ _ (lv_sub hl [] rfl) hP hD hS hf
  · replace hf := qq_f hc hf
    refine lv_iload_n hx hb dd_B_isThere_7 rfl (lv_at hl 2 rfl) ?_
    obtain ⟨r2, hy2, hf⟩ := qq_bd hf
    refine qq_S (As := [.int a2]) (rest := []) (wr := [(oB, .inr (0, [.ref oP, .ref oH, .ref oW, .ref oS, .int pl])), (oP, .inr (1, [.ref osq, .ref okg, .int sd, .int rt, .int ps])), (osq, .inl (cI, 64, .inl sq)), (okg, .inl (cI, 2, .inl kg)), (oH, .inr (3, [.ref obo, .ref oma, .ref oqt, .ref oyc, .ref oyb, .int md])), (obo, .inl (cL, 604, .inr (.inl bo))), (oma, .inl (cI, 151, .inl ma)), (oqt, .inl (cI, 151, .inl qt)), (oyc, .inl (cI, 150, .inl yc)), (oyb, .inl (cI, 150, .inl yb)), (oW, .inr (2, [.ref orc, .int rn])), (orc, .inl (cI, 415, .inl rc)), (oS, .inr (4, [.ref orows])), (orows, .inl (cR, 4, .inr (.inr (.inr (.inr (qq_rows oR0 oR1 oR2 oR3)))))), (oR0, .inr (2, [.ref orc0, .int rn0])), (orc0, .inl (cI, 415, .inl rc0)), (oR1, .inr (2, [.ref orc1, .int rn1])), (orc1, .inl (cI, 415, .inl rc1)), (oR2, .inr (2, [.ref orc2, .int rn2])), (orc2, .inl (cI, 415, .inl rc2)), (oR3, .inr (2, [.ref orc3, .int rn3])), (orc3, .inl (cI, 415, .inl rc3))]) (wf := [(oB, .inr (0, [.ref oP, .ref oH, .ref oW, .ref oS, .int pl])), (oP, .inr (1, [.ref osq, .ref okg, .int sd, .int rt, .int ps])), (osq, .inl (cI, 64, .inl sq)), (okg, .inl (cI, 2, .inl kg)), (oH, .inr (3, [.ref obo, .ref oma, .ref oqt, .ref oyc, .ref oyb, .int md])), (obo, .inl (cL, 604, .inr (.inl bo))), (oma, .inl (cI, 151, .inl ma)), (oqt, .inl (cI, 151, .inl qt)), (oyc, .inl (cI, 150, .inl yc)), (oyb, .inl (cI, 150, .inl yb)), (oW, .inr (2, [.ref orc, .int rn])), (orc, .inl (cI, 415, .inl rc)), (oS, .inr (4, [.ref orows])), (orows, .inl (cR, 4, .inr (.inr (.inr (.inr (qq_rows oR0 oR1 oR2 oR3)))))), (oR0, .inr (2, [.ref orc0, .int rn0])), (orc0, .inl (cI, 415, .inl rc0)), (oR1, .inr (2, [.ref orc1, .int rn1])), (orc1, .inl (cI, 415, .inl rc1)), (oR2, .inr (2, [.ref orc2, .int rn2])), (orc2, .inl (cI, 415, .inl rc2)), (oR3, .inr (2, [.ref orc3, .int rn3])), (orc3, .inl (cI, 415, .inl rc3))]) ⟨hx, hb, hml, hown, hts⟩ (ct_B_isSquare l dC dI cI cL cR a2 hy2) mm_2 mm_3 mm_0 mm_1 hd_B_isSquare (by decide) qq_00 hP hD hK hS hA hT hN [] [0, 1, 2, 3, 4, 5, 6, 7, 8, 9, 10, 11, 12, 13, 14, 15, 16, 17, 18, 19, 20, 21] [0, 1, 2, 3, 4, 5, 6, 7, 8, 9, 10, 11, 12, 13, 14, 15, 16, 17, 18, 19, 20, 21] rfl rfl rfl (by decide) rfl hl.1 rfl (Nat.le_of_ble_eq_true rfl) dd_B_isThere_8 (fun H locs hP hD hS => ?_)
    refine W.eq (g2 := F0 m 11 ls [.int r2]) rfl ?_
    refine lv_if_eq (tgt := 23) hx hb dd_B_isThere_11 (by decide) (fun hc => ?_) (fun hc => ?_)
    · replace hf := qq_t hc hf
      exact hJ23 sd rt ps sq kg rn rc _ _ _ (lv_sub hl [] rfl) hP hD hS hf
    · replace hf := qq_f hc hf
      refine lv_iload_n hx hb dd_B_isThere_14 rfl (lv_at hl 3 rfl) ?_
      refine lv_if_lt (tgt := 23) hx hb dd_B_isThere_15 (by decide) (fun hc => ?_) (fun hc => ?_)
      · replace hf := qq_t hc hf
        exact hJ23 sd rt ps sq kg rn rc _ _ _ (lv_sub hl [] rfl) hP hD hS hf
      · replace hf := qq_f hc hf
        refine lv_iload_n hx hb dd_B_isThere_18 rfl (lv_at hl 3 rfl) ?_
        refine lv_iconst (v := 5) hx hb dd_B_isThere_19 (by decide) ?_
        refine lv_icmp_le (tgt := 25) hx hb dd_B_isThere_20 (by decide) (fun hc => ?_) (fun hc => ?_)
        · replace hf := qq_t hc hf
          refine lv_aload_n hx hb dd_B_isThere_25 rfl (lv_at hl 0 rfl) ?_
          refine va_get (D := (dC, dI)) (ci := 0) (v := .ref oP) (C := RR_B) (T := FF_B) (N := 5) hx hb hts uu_B hown hK hP 0 rfl rfl 0 (by decide) (hts _ mm_4) (fun _ h9 => h9) rfl dd_B_isThere_26 ?_
          refine lv_aload_n hx hb dd_B_isThere_29 rfl (lv_at hl 0 rfl) ?_
          refine va_get (D := (dC, dI)) (ci := 0) (v := .ref oW) (C := RR_B) (T := FF_B) (N := 5) hx hb hts uu_B hown hK hP 0 rfl rfl 2 (by decide) (hts _ mm_143) (fun _ h9 => h9) rfl dd_B_isThere_30 ?_
          obtain ⟨⟨r3, sd_4, rt_5, ps_6, sq_7, kg_8, rn_9, rc_10⟩, hy10, hf⟩ := qq_bd hf
          dsimp only at hf
          refine qq_V (As := [.ref oW]) (rest := []) (wr := [(oB, .inr (0, [.ref oP, .ref oH, .ref oW, .ref oS, .int pl])), (oH, .inr (3, [.ref obo, .ref oma, .ref oqt, .ref oyc, .ref oyb, .int md])), (obo, .inl (cL, 604, .inr (.inl bo))), (oma, .inl (cI, 151, .inl ma)), (oqt, .inl (cI, 151, .inl qt)), (oyc, .inl (cI, 150, .inl yc)), (oyb, .inl (cI, 150, .inl yb)), (oS, .inr (4, [.ref orows])), (orows, .inl (cR, 4, .inr (.inr (.inr (.inr (qq_rows oR0 oR1 oR2 oR3)))))), (oR0, .inr (2, [.ref orc0, .int rn0])), (orc0, .inl (cI, 415, .inl rc0)), (oR1, .inr (2, [.ref orc1, .int rn1])), (orc1, .inl (cI, 415, .inl rc1)), (oR2, .inr (2, [.ref orc2, .int rn2])), (orc2, .inl (cI, 415, .inl rc2)), (oR3, .inr (2, [.ref orc3, .int rn3])), (orc3, .inl (cI, 415, .inl rc3))]) (wf := [(oB, .inr (0, [.ref oP, .ref oH, .ref oW, .ref oS, .int pl])), (oP, .inr (1, [.ref osq, .ref okg, .int sd_4, .int rt_5, .int ps_6])), (osq, .inl (cI, 64, .inl sq_7)), (okg, .inl (cI, 2, .inl kg_8)), (oH, .inr (3, [.ref obo, .ref oma, .ref oqt, .ref oyc, .ref oyb, .int md])), (obo, .inl (cL, 604, .inr (.inl bo))), (oma, .inl (cI, 151, .inl ma)), (oqt, .inl (cI, 151, .inl qt)), (oyc, .inl (cI, 150, .inl yc)), (oyb, .inl (cI, 150, .inl yb)), (oW, .inr (2, [.ref orc, .int rn_9])), (orc, .inl (cI, 415, .inl rc_10)), (oS, .inr (4, [.ref orows])), (orows, .inl (cR, 4, .inr (.inr (.inr (.inr (qq_rows oR0 oR1 oR2 oR3)))))), (oR0, .inr (2, [.ref orc0, .int rn0])), (orc0, .inl (cI, 415, .inl rc0)), (oR1, .inr (2, [.ref orc1, .int rn1])), (orc1, .inl (cI, 415, .inl rc1)), (oR2, .inr (2, [.ref orc2, .int rn2])), (orc2, .inl (cI, 415, .inl rc2)), (oR3, .inr (2, [.ref orc3, .int rn3])), (orc3, .inl (cI, 415, .inl rc3))]) ⟨hx, hb, hml, hown, hts⟩ (ct_P_listMoves l dC dI cI cL cR oP osq okg oW orc sd rt ps sq kg rn rc hy10) mm_145 mm_146 mm_147 mm_144 mm_15 hd_P_listMoves (by decide) qq_00 hP hD hK hS hA hT hN (q0 := 1) (ci := 1) rfl rfl [1, 2, 3, 10, 11] [0, 4, 5, 6, 7, 8, 9, 12, 13, 14, 15, 16, 17, 18, 19, 20, 21] [0, 17, 18, 19, 1, 2, 3, 4, 5, 6, 20, 21, 7, 8, 9, 10, 11, 12, 13, 14, 15, 16] rfl rfl rfl (by decide) rfl hl.1 rfl (Nat.le_of_ble_eq_true rfl) dd_B_isThere_33 (fun H locs hP hD hS => ?_)
          refine W.eq (g2 := F0 m 36 ls [.int r3]) rfl ?_
          refine lv_pop hx hb dd_B_isThere_36 rfl ?_
          refine lv_aload_n hx hb dd_B_isThere_37 rfl (lv_at hl 0 rfl) ?_
          refine va_get (D := (dC, dI)) (ci := 0) (v := .ref oW) (C := RR_B) (T := FF_B) (N := 5) hx hb hts uu_B hown hK hP 0 rfl rfl 2 (by decide) (hts _ mm_143) (fun _ h9 => h9) rfl dd_B_isThere_38 ?_
          refine lv_iload_n hx hb dd_B_isThere_41 rfl (lv_at hl 1 rfl) ?_
          refine lv_iload_n hx hb dd_B_isThere_42 rfl (lv_at hl 2 rfl) ?_
          refine lv_iload_n hx hb dd_B_isThere_43 rfl (lv_at hl 3 rfl) ?_
          obtain ⟨r11, hy11, hf⟩ := qq_bd hf
          refine qq_S (As := [.int a1, .int a2, .int a3]) (rest := [.ref oW]) (wr := [(oB, .inr (0, [.ref oP, .ref oH, .ref oW, .ref oS, .int pl])), (oP, .inr (1, [.ref osq, .ref okg, .int sd_4, .int rt_5, .int ps_6])), (osq, .inl (cI, 64, .inl sq_7)), (okg, .inl (cI, 2, .inl kg_8)), (oH, .inr (3, [.ref obo, .ref oma, .ref oqt, .ref oyc, .ref oyb, .int md])), (obo, .inl (cL, 604, .inr (.inl bo))), (oma, .inl (cI, 151, .inl ma)), (oqt, .inl (cI, 151, .inl qt)), (oyc, .inl (cI, 150, .inl yc)), (oyb, .inl (cI, 150, .inl yb)), (oW, .inr (2, [.ref orc, .int rn_9])), (orc, .inl (cI, 415, .inl rc_10)), (oS, .inr (4, [.ref orows])), (orows, .inl (cR, 4, .inr (.inr (.inr (.inr (qq_rows oR0 oR1 oR2 oR3)))))), (oR0, .inr (2, [.ref orc0, .int rn0])), (orc0, .inl (cI, 415, .inl rc0)), (oR1, .inr (2, [.ref orc1, .int rn1])), (orc1, .inl (cI, 415, .inl rc1)), (oR2, .inr (2, [.ref orc2, .int rn2])), (orc2, .inl (cI, 415, .inl rc2)), (oR3, .inr (2, [.ref orc3, .int rn3])), (orc3, .inl (cI, 415, .inl rc3))]) (wf := [(oB, .inr (0, [.ref oP, .ref oH, .ref oW, .ref oS, .int pl])), (oP, .inr (1, [.ref osq, .ref okg, .int sd_4, .int rt_5, .int ps_6])), (osq, .inl (cI, 64, .inl sq_7)), (okg, .inl (cI, 2, .inl kg_8)), (oH, .inr (3, [.ref obo, .ref oma, .ref oqt, .ref oyc, .ref oyb, .int md])), (obo, .inl (cL, 604, .inr (.inl bo))), (oma, .inl (cI, 151, .inl ma)), (oqt, .inl (cI, 151, .inl qt)), (oyc, .inl (cI, 150, .inl yc)), (oyb, .inl (cI, 150, .inl yb)), (oW, .inr (2, [.ref orc, .int rn_9])), (orc, .inl (cI, 415, .inl rc_10)), (oS, .inr (4, [.ref orows])), (orows, .inl (cR, 4, .inr (.inr (.inr (.inr (qq_rows oR0 oR1 oR2 oR3)))))), (oR0, .inr (2, [.ref orc0, .int rn0])), (orc0, .inl (cI, 415, .inl rc0)), (oR1, .inr (2, [.ref orc1, .int rn1])), (orc1, .inl (cI, 415, .inl rc1)), (oR2, .inr (2, [.ref orc2, .int rn2])), (orc2, .inl (cI, 415, .inl rc2)), (oR3, .inr (2, [.ref orc3, .int rn3])), (orc3, .inl (cI, 415, .inl rc3))]) ⟨hx, hb, hml, hown, hts⟩ (ct_B_codeOf l dC dI cI cL cR a1 a2 a3 hy11) mm_148 mm_40 mm_39 mm_1 hd_B_codeOf (by decide) qq_00 hP hD hK hS hA hT hN [] [0, 1, 2, 3, 4, 5, 6, 7, 8, 9, 10, 11, 12, 13, 14, 15, 16, 17, 18, 19, 20, 21] [0, 1, 2, 3, 4, 5, 6, 7, 8, 9, 10, 11, 12, 13, 14, 15, 16, 17, 18, 19, 20, 21] rfl rfl rfl (by decide) rfl hl.1 rfl (Nat.le_of_ble_eq_true rfl) dd_B_isThere_44 (fun H locs hP hD hS => ?_)
          refine W.eq (g2 := F0 m 47 ls [.int r11, .ref oW]) rfl ?_
          obtain ⟨r12, hy12, hf⟩ := qq_bd hf
          refine qq_V (As := [.int r11]) (rest := []) (wr := [(oB, .inr (0, [.ref oP, .ref oH, .ref oW, .ref oS, .int pl])), (oP, .inr (1, [.ref osq, .ref okg, .int sd_4, .int rt_5, .int ps_6])), (osq, .inl (cI, 64, .inl sq_7)), (okg, .inl (cI, 2, .inl kg_8)), (oH, .inr (3, [.ref obo, .ref oma, .ref oqt, .ref oyc, .ref oyb, .int md])), (obo, .inl (cL, 604, .inr (.inl bo))), (oma, .inl (cI, 151, .inl ma)), (oqt, .inl (cI, 151, .inl qt)), (oyc, .inl (cI, 150, .inl yc)), (oyb, .inl (cI, 150, .inl yb)), (oS, .inr (4, [.ref orows])), (orows, .inl (cR, 4, .inr (.inr (.inr (.inr (qq_rows oR0 oR1 oR2 oR3)))))), (oR0, .inr (2, [.ref orc0, .int rn0])), (orc0, .inl (cI, 415, .inl rc0)), (oR1, .inr (2, [.ref orc1, .int rn1])), (orc1, .inl (cI, 415, .inl rc1)), (oR2, .inr (2, [.ref orc2, .int rn2])), (orc2, .inl (cI, 415, .inl rc2)), (oR3, .inr (2, [.ref orc3, .int rn3])), (orc3, .inl (cI, 415, .inl rc3))]) (wf := [(oB, .inr (0, [.ref oP, .ref oH, .ref oW, .ref oS, .int pl])), (oP, .inr (1, [.ref osq, .ref okg, .int sd_4, .int rt_5, .int ps_6])), (osq, .inl (cI, 64, .inl sq_7)), (okg, .inl (cI, 2, .inl kg_8)), (oH, .inr (3, [.ref obo, .ref oma, .ref oqt, .ref oyc, .ref oyb, .int md])), (obo, .inl (cL, 604, .inr (.inl bo))), (oma, .inl (cI, 151, .inl ma)), (oqt, .inl (cI, 151, .inl qt)), (oyc, .inl (cI, 150, .inl yc)), (oyb, .inl (cI, 150, .inl yb)), (oW, .inr (2, [.ref orc, .int rn_9])), (orc, .inl (cI, 415, .inl rc_10)), (oS, .inr (4, [.ref orows])), (orows, .inl (cR, 4, .inr (.inr (.inr (.inr (qq_rows oR0 oR1 oR2 oR3)))))), (oR0, .inr (2, [.ref orc0, .int rn0])), (orc0, .inl (cI, 415, .inl rc0)), (oR1, .inr (2, [.ref orc1, .int rn1])), (orc1, .inl (cI, 415, .inl rc1)), (oR2, .inr (2, [.ref orc2, .int rn2])), (orc2, .inl (cI, 415, .inl rc2)), (oR3, .inr (2, [.ref orc3, .int rn3])), (orc3, .inl (cI, 415, .inl rc3))]) ⟨hx, hb, hml, hown, hts⟩ (ct_W_holds l dC dI cI cL cR oW orc rn_9 rc_10 r11 hy12) mm_150 mm_151 mm_152 mm_149 mm_42 hd_W_holds (by decide) qq_00 hP hD hK hS hA hT hN (q0 := 10) (ci := 2) rfl rfl [10, 11] [0, 1, 2, 3, 4, 5, 6, 7, 8, 9, 12, 13, 14, 15, 16, 17, 18, 19, 20, 21] [0, 1, 2, 3, 4, 5, 6, 7, 8, 9, 20, 21, 10, 11, 12, 13, 14, 15, 16, 17, 18, 19] rfl rfl rfl (by decide) rfl hl.1 rfl (Nat.le_of_ble_eq_true rfl) dd_B_isThere_47 (fun H locs hP hD hS => ?_)
          refine W.eq (g2 := F0 m 50 ls [.int r12]) rfl ?_
          obtain ⟨hzb, hf⟩ := qq_ckE hf
          cases hf
          exact qq_zret hx hb hr (qq_bE hzb) hlocks hQ hP hD hK hS dd_B_isThere_50
        · replace hf := qq_f hc hf
          exact hJ23 sd rt ps sq kg rn rc _ _ _ (lv_sub hl [] rfl) hP hD hS hf
theorem dd_B_made_0 : decode bb_B_made 0 = .ok (.aload_n 0, 1) := by decide +kernel
theorem dd_B_made_1 : decode bb_B_made 1 = .ok (.getfield 44, 3) := by decide +kernel
theorem dd_B_made_4 : decode bb_B_made 4 = .ok (.ifCond .eq 13, 3) := by decide +kernel
theorem dd_B_made_7 : decode bb_B_made 7 = .ok (.aload_n 0, 1) := by decide +kernel
theorem dd_B_made_8 : decode bb_B_made 8 = .ok (.getfield 19, 3) := by decide +kernel
theorem dd_B_made_11 : decode bb_B_made 11 = .ok (.getfield 87, 3) := by decide +kernel
theorem dd_B_made_14 : decode bb_B_made 14 = .ok (.goto 4, 3) := by decide +kernel
theorem dd_B_made_17 : decode bb_B_made 17 = .ok (.iconst 0, 1) := by decide +kernel
theorem dd_B_made_18 : decode bb_B_made 18 = .ok (.ireturn, 1) := by decide +kernel
abbrev ty_B_made : Type := Int32
noncomputable def bk_B_made_18 (pl : Int32) (md : Int32) (s0 : Int32) : Option ty_B_made := some s0
noncomputable def fn_B_made (pl : Int32) (md : Int32) : Option ty_B_made := if pl = 0 then (bk_B_made_18 pl md 0) else (bk_B_made_18 pl md md)
abbrev rm_B_made : Room := { frames := 0, cells := 0, slots := 0, locals := 0 }
set_option maxHeartbeats 4000000 in
set_option maxRecDepth 100000 in
theorem ct_B_made (l : Launch) (dC : Nat → ClassId) (dI : Nat → Nat → Nat) (cI cL cR : ClassId) (oB oP osq okg oH obo oma oqt oyc oyb oW orc oS orows oR0 orc0 oR1 orc1 oR2 orc2 oR3 orc3 : Nat) (pl : Int32) (sd : Int32) (rt : Int32) (ps : Int32) (sq : Nat → Int32) (kg : Nat → Int32) (md : Int32) (bo : Nat → Int64) (ma : Nat → Int32) (qt : Nat → Int32) (yc : Nat → Int32) (yb : Nat → Int32) (rn : Int32) (rc : Nat → Int32) (rn0 : Int32) (rc0 : Nat → Int32) (rn1 : Int32) (rc1 : Nat → Int32) (rn2 : Int32) (rc2 : Nat → Int32) (rn3 : Int32) (rc3 : Nat → Int32) {rr : Int32} (hf : fn_B_made pl md = some rr) : qq_det l yy_B_made (ww_of yy_B_made bb_B_made 1 (some .int)) rm_B_made (dC, dI) (qq_ty cI cL cR) [.ref oB] [(oB, .inr (0, [.ref oP, .ref oH, .ref oW, .ref oS, .int pl])), (oP, .inr (1, [.ref osq, .ref okg, .int sd, .int rt, .int ps])), (osq, .inl (cI, 64, .inl sq)), (okg, .inl (cI, 2, .inl kg)), (oH, .inr (3, [.ref obo, .ref oma, .ref oqt, .ref oyc, .ref oyb, .int md])), (obo, .inl (cL, 604, .inr (.inl bo))), (oma, .inl (cI, 151, .inl ma)), (oqt, .inl (cI, 151, .inl qt)), (oyc, .inl (cI, 150, .inl yc)), (oyb, .inl (cI, 150, .inl yb)), (oW, .inr (2, [.ref orc, .int rn])), (orc, .inl (cI, 415, .inl rc)), (oS, .inr (4, [.ref orows])), (orows, .inl (cR, 4, .inr (.inr (.inr (.inr (qq_rows oR0 oR1 oR2 oR3)))))), (oR0, .inr (2, [.ref orc0, .int rn0])), (orc0, .inl (cI, 415, .inl rc0)), (oR1, .inr (2, [.ref orc1, .int rn1])), (orc1, .inl (cI, 415, .inl rc1)), (oR2, .inr (2, [.ref orc2, .int rn2])), (orc2, .inl (cI, 415, .inl rc2)), (oR3, .inr (2, [.ref orc3, .int rn3])), (orc3, .inl (cI, 415, .inl rc3))] (some (.int rr)) [(oB, .inr (0, [.ref oP, .ref oH, .ref oW, .ref oS, .int pl])), (oP, .inr (1, [.ref osq, .ref okg, .int sd, .int rt, .int ps])), (osq, .inl (cI, 64, .inl sq)), (okg, .inl (cI, 2, .inl kg)), (oH, .inr (3, [.ref obo, .ref oma, .ref oqt, .ref oyc, .ref oyb, .int md])), (obo, .inl (cL, 604, .inr (.inl bo))), (oma, .inl (cI, 151, .inl ma)), (oqt, .inl (cI, 151, .inl qt)), (oyc, .inl (cI, 150, .inl yc)), (oyb, .inl (cI, 150, .inl yb)), (oW, .inr (2, [.ref orc, .int rn])), (orc, .inl (cI, 415, .inl rc)), (oS, .inr (4, [.ref orows])), (orows, .inl (cR, 4, .inr (.inr (.inr (.inr (qq_rows oR0 oR1 oR2 oR3)))))), (oR0, .inr (2, [.ref orc0, .int rn0])), (orc0, .inl (cI, 415, .inl rc0)), (oR1, .inr (2, [.ref orc1, .int rn1])), (orc1, .inl (cI, 415, .inl rc1)), (oR2, .inr (2, [.ref orc2, .int rn2])), (orc2, .inl (cI, 415, .inl rc2)), (oR3, .inr (2, [.ref orc3, .int rn3])), (orc3, .inl (cI, 415, .inl rc3))] := by
  refine qq_of (own := RR_B) (by decide) rfl (Nat.le_of_ble_eq_true rfl) ?_
  intro p e s m below meth c A Q ls hx hb hml hr hlocks hown hts hK hA hT hN hP hD hS hl hQ
  have hl : lv_has ls 1 [(0, .ref oB)] := hl
  have hJ18 : ∀ (s0 : Int32) (H : Heap) (locs : List Loc) (ls : Array Slot), lv_has ls 1 [] → va_P (dC, dI) classes [(oB, .inr (0, [.ref oP, .ref oH, .ref oW, .ref oS, .int pl])), (oP, .inr (1, [.ref osq, .ref okg, .int sd, .int rt, .int ps])), (osq, .inl (cI, 64, .inl sq)), (okg, .inl (cI, 2, .inl kg)), (oH, .inr (3, [.ref obo, .ref oma, .ref oqt, .ref oyc, .ref oyb, .int md])), (obo, .inl (cL, 604, .inr (.inl bo))), (oma, .inl (cI, 151, .inl ma)), (oqt, .inl (cI, 151, .inl qt)), (oyc, .inl (cI, 150, .inl yc)), (oyb, .inl (cI, 150, .inl yb)), (oW, .inr (2, [.ref orc, .int rn])), (orc, .inl (cI, 415, .inl rc)), (oS, .inr (4, [.ref orows])), (orows, .inl (cR, 4, .inr (.inr (.inr (.inr (qq_rows oR0 oR1 oR2 oR3)))))), (oR0, .inr (2, [.ref orc0, .int rn0])), (orc0, .inl (cI, 415, .inl rc0)), (oR1, .inr (2, [.ref orc1, .int rn1])), (orc1, .inl (cI, 415, .inl rc1)), (oR2, .inr (2, [.ref orc2, .int rn2])), (orc2, .inl (cI, 415, .inl rc2)), (oR3, .inr (2, [.ref orc3, .int rn3])), (orc3, .inl (cI, 415, .inl rc3))] H → va_D A [(oB, .inr (0, [.ref oP, .ref oH, .ref oW, .ref oS, .int pl])), (oP, .inr (1, [.ref osq, .ref okg, .int sd, .int rt, .int ps])), (osq, .inl (cI, 64, .inl sq)), (okg, .inl (cI, 2, .inl kg)), (oH, .inr (3, [.ref obo, .ref oma, .ref oqt, .ref oyc, .ref oyb, .int md])), (obo, .inl (cL, 604, .inr (.inl bo))), (oma, .inl (cI, 151, .inl ma)), (oqt, .inl (cI, 151, .inl qt)), (oyc, .inl (cI, 150, .inl yc)), (oyb, .inl (cI, 150, .inl yb)), (oW, .inr (2, [.ref orc, .int rn])), (orc, .inl (cI, 415, .inl rc)), (oS, .inr (4, [.ref orows])), (orows, .inl (cR, 4, .inr (.inr (.inr (.inr (qq_rows oR0 oR1 oR2 oR3)))))), (oR0, .inr (2, [.ref orc0, .int rn0])), (orc0, .inl (cI, 415, .inl rc0)), (oR1, .inr (2, [.ref orc1, .int rn1])), (orc1, .inl (cI, 415, .inl rc1)), (oR2, .inr (2, [.ref orc2, .int rn2])), (orc2, .inl (cI, 415, .inl rc2)), (oR3, .inr (2, [.ref orc3, .int rn3])), (orc3, .inl (cI, 415, .inl rc3))] → va_S A s.heap H locs → bk_B_made_18 pl md s0 = some rr → W p l e rm_B_made s m ([.ref oB] : List Value).toArray below meth c H locs 0 0 Q (F0 m 18 ls [.int s0]) := by
    intro s0 H locs ls hl hP hD hS hf
    rw [bk_B_made_18] at hf
    cases hf
    exact qq_iret hx hb hr hlocks hQ hP hD hK hS dd_B_made_18
  rw [fn_B_made] at hf
  refine lv_aload_n hx hb dd_B_made_0 rfl (lv_at hl 0 rfl) ?_
  refine va_get (D := (dC, dI)) (ci := 0) (v := .int pl) (C := RR_B) (T := FF_B) (N := 5) hx hb hts uu_B hown hK hP 0 rfl rfl 4 (by decide) (hts _ mm_6) (fun _ h9 => h9) rfl dd_B_made_1 ?_
  refine lv_if_eq (tgt := 17) hx hb dd_B_made_4 (by decide) (fun hc => ?_) (fun hc => ?_)
  · replace hf := qq_t hc hf
    refine lv_iconst (v := 0) hx hb dd_B_made_17 (by decide) ?_
    exact hJ18 0 _ _ _ (lv_sub hl [] rfl) hP hD hS hf
  · replace hf := qq_f hc hf
    refine lv_aload_n hx hb dd_B_made_7 rfl (lv_at hl 0 rfl) ?_
    refine va_get (D := (dC, dI)) (ci := 0) (v := .ref oH) (C := RR_B) (T := FF_B) (N := 5) hx hb hts uu_B hown hK hP 0 rfl rfl 1 (by decide) (hts _ mm_153) (fun _ h9 => h9) rfl dd_B_made_8 ?_
    refine va_get (D := (dC, dI)) (ci := 3) (v := .int md) (C := RR_H) (T := FF_H) (N := 6) hx hb hts uu_H hown hK hP 4 rfl rfl 5 (by decide) (hts _ mm_154) (fun _ h9 => h9) rfl dd_B_made_11 ?_
    refine lv_goto (tgt := 18) hx hb dd_B_made_14 (by decide) ?_
    exact hJ18 md _ _ _ (lv_sub hl [] rfl) hP hD hS hf
theorem dd_B_passed_0 : decode bb_B_passed 0 = .ok (.aload_n 0, 1) := by decide +kernel
theorem dd_B_passed_1 : decode bb_B_passed 1 = .ok (.getfield 44, 3) := by decide +kernel
theorem dd_B_passed_4 : decode bb_B_passed 4 = .ok (.ifCond .eq 13, 3) := by decide +kernel
theorem dd_B_passed_7 : decode bb_B_passed 7 = .ok (.aload_n 0, 1) := by decide +kernel
theorem dd_B_passed_8 : decode bb_B_passed 8 = .ok (.getfield 10, 3) := by decide +kernel
theorem dd_B_passed_11 : decode bb_B_passed 11 = .ok (.getfield 129, 3) := by decide +kernel
theorem dd_B_passed_14 : decode bb_B_passed 14 = .ok (.goto 4, 3) := by decide +kernel
theorem dd_B_passed_17 : decode bb_B_passed 17 = .ok (.iconst (-1), 1) := by decide +kernel
theorem dd_B_passed_18 : decode bb_B_passed 18 = .ok (.ireturn, 1) := by decide +kernel
abbrev ty_B_passed : Type := Int32
noncomputable def bk_B_passed_18 (pl : Int32) (ps : Int32) (s0 : Int32) : Option ty_B_passed := some s0
noncomputable def fn_B_passed (pl : Int32) (ps : Int32) : Option ty_B_passed := if pl = 0 then (bk_B_passed_18 pl ps (-1)) else (bk_B_passed_18 pl ps ps)
abbrev rm_B_passed : Room := { frames := 0, cells := 0, slots := 0, locals := 0 }
set_option maxHeartbeats 4000000 in
set_option maxRecDepth 100000 in
theorem ct_B_passed (l : Launch) (dC : Nat → ClassId) (dI : Nat → Nat → Nat) (cI cL cR : ClassId) (oB oP osq okg oH obo oma oqt oyc oyb oW orc oS orows oR0 orc0 oR1 orc1 oR2 orc2 oR3 orc3 : Nat) (pl : Int32) (sd : Int32) (rt : Int32) (ps : Int32) (sq : Nat → Int32) (kg : Nat → Int32) (md : Int32) (bo : Nat → Int64) (ma : Nat → Int32) (qt : Nat → Int32) (yc : Nat → Int32) (yb : Nat → Int32) (rn : Int32) (rc : Nat → Int32) (rn0 : Int32) (rc0 : Nat → Int32) (rn1 : Int32) (rc1 : Nat → Int32) (rn2 : Int32) (rc2 : Nat → Int32) (rn3 : Int32) (rc3 : Nat → Int32) {rr : Int32} (hf : fn_B_passed pl ps = some rr) : qq_det l yy_B_passed (ww_of yy_B_passed bb_B_passed 1 (some .int)) rm_B_passed (dC, dI) (qq_ty cI cL cR) [.ref oB] [(oB, .inr (0, [.ref oP, .ref oH, .ref oW, .ref oS, .int pl])), (oP, .inr (1, [.ref osq, .ref okg, .int sd, .int rt, .int ps])), (osq, .inl (cI, 64, .inl sq)), (okg, .inl (cI, 2, .inl kg)), (oH, .inr (3, [.ref obo, .ref oma, .ref oqt, .ref oyc, .ref oyb, .int md])), (obo, .inl (cL, 604, .inr (.inl bo))), (oma, .inl (cI, 151, .inl ma)), (oqt, .inl (cI, 151, .inl qt)), (oyc, .inl (cI, 150, .inl yc)), (oyb, .inl (cI, 150, .inl yb)), (oW, .inr (2, [.ref orc, .int rn])), (orc, .inl (cI, 415, .inl rc)), (oS, .inr (4, [.ref orows])), (orows, .inl (cR, 4, .inr (.inr (.inr (.inr (qq_rows oR0 oR1 oR2 oR3)))))), (oR0, .inr (2, [.ref orc0, .int rn0])), (orc0, .inl (cI, 415, .inl rc0)), (oR1, .inr (2, [.ref orc1, .int rn1])), (orc1, .inl (cI, 415, .inl rc1)), (oR2, .inr (2, [.ref orc2, .int rn2])), (orc2, .inl (cI, 415, .inl rc2)), (oR3, .inr (2, [.ref orc3, .int rn3])), (orc3, .inl (cI, 415, .inl rc3))] (some (.int rr)) [(oB, .inr (0, [.ref oP, .ref oH, .ref oW, .ref oS, .int pl])), (oP, .inr (1, [.ref osq, .ref okg, .int sd, .int rt, .int ps])), (osq, .inl (cI, 64, .inl sq)), (okg, .inl (cI, 2, .inl kg)), (oH, .inr (3, [.ref obo, .ref oma, .ref oqt, .ref oyc, .ref oyb, .int md])), (obo, .inl (cL, 604, .inr (.inl bo))), (oma, .inl (cI, 151, .inl ma)), (oqt, .inl (cI, 151, .inl qt)), (oyc, .inl (cI, 150, .inl yc)), (oyb, .inl (cI, 150, .inl yb)), (oW, .inr (2, [.ref orc, .int rn])), (orc, .inl (cI, 415, .inl rc)), (oS, .inr (4, [.ref orows])), (orows, .inl (cR, 4, .inr (.inr (.inr (.inr (qq_rows oR0 oR1 oR2 oR3)))))), (oR0, .inr (2, [.ref orc0, .int rn0])), (orc0, .inl (cI, 415, .inl rc0)), (oR1, .inr (2, [.ref orc1, .int rn1])), (orc1, .inl (cI, 415, .inl rc1)), (oR2, .inr (2, [.ref orc2, .int rn2])), (orc2, .inl (cI, 415, .inl rc2)), (oR3, .inr (2, [.ref orc3, .int rn3])), (orc3, .inl (cI, 415, .inl rc3))] := by
  refine qq_of (own := RR_B) (by decide) rfl (Nat.le_of_ble_eq_true rfl) ?_
  intro p e s m below meth c A Q ls hx hb hml hr hlocks hown hts hK hA hT hN hP hD hS hl hQ
  have hl : lv_has ls 1 [(0, .ref oB)] := hl
  have hJ18 : ∀ (s0 : Int32) (H : Heap) (locs : List Loc) (ls : Array Slot), lv_has ls 1 [] → va_P (dC, dI) classes [(oB, .inr (0, [.ref oP, .ref oH, .ref oW, .ref oS, .int pl])), (oP, .inr (1, [.ref osq, .ref okg, .int sd, .int rt, .int ps])), (osq, .inl (cI, 64, .inl sq)), (okg, .inl (cI, 2, .inl kg)), (oH, .inr (3, [.ref obo, .ref oma, .ref oqt, .ref oyc, .ref oyb, .int md])), (obo, .inl (cL, 604, .inr (.inl bo))), (oma, .inl (cI, 151, .inl ma)), (oqt, .inl (cI, 151, .inl qt)), (oyc, .inl (cI, 150, .inl yc)), (oyb, .inl (cI, 150, .inl yb)), (oW, .inr (2, [.ref orc, .int rn])), (orc, .inl (cI, 415, .inl rc)), (oS, .inr (4, [.ref orows])), (orows, .inl (cR, 4, .inr (.inr (.inr (.inr (qq_rows oR0 oR1 oR2 oR3)))))), (oR0, .inr (2, [.ref orc0, .int rn0])), (orc0, .inl (cI, 415, .inl rc0)), (oR1, .inr (2, [.ref orc1, .int rn1])), (orc1, .inl (cI, 415, .inl rc1)), (oR2, .inr (2, [.ref orc2, .int rn2])), (orc2, .inl (cI, 415, .inl rc2)), (oR3, .inr (2, [.ref orc3, .int rn3])), (orc3, .inl (cI, 415, .inl rc3))] H → va_D A [(oB, .inr (0, [.ref oP, .ref oH, .ref oW, .ref oS, .int pl])), (oP, .inr (1, [.ref osq, .ref okg, .int sd, .int rt, .int ps])), (osq, .inl (cI, 64, .inl sq)), (okg, .inl (cI, 2, .inl kg)), (oH, .inr (3, [.ref obo, .ref oma, .ref oqt, .ref oyc, .ref oyb, .int md])), (obo, .inl (cL, 604, .inr (.inl bo))), (oma, .inl (cI, 151, .inl ma)), (oqt, .inl (cI, 151, .inl qt)), (oyc, .inl (cI, 150, .inl yc)), (oyb, .inl (cI, 150, .inl yb)), (oW, .inr (2, [.ref orc, .int rn])), (orc, .inl (cI, 415, .inl rc)), (oS, .inr (4, [.ref orows])), (orows, .inl (cR, 4, .inr (.inr (.inr (.inr (qq_rows oR0 oR1 oR2 oR3)))))), (oR0, .inr (2, [.ref orc0, .int rn0])), (orc0, .inl (cI, 415, .inl rc0)), (oR1, .inr (2, [.ref orc1, .int rn1])), (orc1, .inl (cI, 415, .inl rc1)), (oR2, .inr (2, [.ref orc2, .int rn2])), (orc2, .inl (cI, 415, .inl rc2)), (oR3, .inr (2, [.ref orc3, .int rn3])), (orc3, .inl (cI, 415, .inl rc3))] → va_S A s.heap H locs → bk_B_passed_18 pl ps s0 = some rr → W p l e rm_B_passed s m ([.ref oB] : List Value).toArray below meth c H locs 0 0 Q (F0 m 18 ls [.int s0]) := by
    intro s0 H locs ls hl hP hD hS hf
    rw [bk_B_passed_18] at hf
    cases hf
    exact qq_iret hx hb hr hlocks hQ hP hD hK hS dd_B_passed_18
  rw [fn_B_passed] at hf
  refine lv_aload_n hx hb dd_B_passed_0 rfl (lv_at hl 0 rfl) ?_
  refine va_get (D := (dC, dI)) (ci := 0) (v := .int pl) (C := RR_B) (T := FF_B) (N := 5) hx hb hts uu_B hown hK hP 0 rfl rfl 4 (by decide) (hts _ mm_6) (fun _ h9 => h9) rfl dd_B_passed_1 ?_
  refine lv_if_eq (tgt := 17) hx hb dd_B_passed_4 (by decide) (fun hc => ?_) (fun hc => ?_)
  · replace hf := qq_t hc hf
    refine lv_iconst (v := (-1)) hx hb dd_B_passed_17 (by decide) ?_
    exact hJ18 (-1) _ _ _ (lv_sub hl [] rfl) hP hD hS hf
  · replace hf := qq_f hc hf
    refine lv_aload_n hx hb dd_B_passed_7 rfl (lv_at hl 0 rfl) ?_
    refine va_get (D := (dC, dI)) (ci := 0) (v := .ref oP) (C := RR_B) (T := FF_B) (N := 5) hx hb hts uu_B hown hK hP 0 rfl rfl 0 (by decide) (hts _ mm_4) (fun _ h9 => h9) rfl dd_B_passed_8 ?_
    refine va_get (D := (dC, dI)) (ci := 1) (v := .int ps) (C := RR_P) (T := FF_P) (N := 5) hx hb hts uu_P hown hK hP 1 rfl rfl 4 (by decide) (hts _ mm_155) (fun _ h9 => h9) rfl dd_B_passed_11 ?_
    refine lv_goto (tgt := 18) hx hb dd_B_passed_14 (by decide) ?_
    exact hJ18 ps _ _ _ (lv_sub hl [] rfl) hP hD hS hf
