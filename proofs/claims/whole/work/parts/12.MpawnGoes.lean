theorem dd_M_pawnGoes_0 : decode bb_M_pawnGoes 0 = .ok (.aload_n 0, 1) := by decide +kernel
theorem dd_M_pawnGoes_1 : decode bb_M_pawnGoes 1 = .ok (.getfield 95, 3) := by decide +kernel
theorem dd_M_pawnGoes_4 : decode bb_M_pawnGoes 4 = .ok (.ifCond .ne 8, 3) := by decide +kernel
theorem dd_M_pawnGoes_7 : decode bb_M_pawnGoes 7 = .ok (.bipush 7, 2) := by decide +kernel
theorem dd_M_pawnGoes_9 : decode bb_M_pawnGoes 9 = .ok (.goto 4, 3) := by decide +kernel
theorem dd_M_pawnGoes_12 : decode bb_M_pawnGoes 12 = .ok (.iconst 0, 1) := by decide +kernel
theorem dd_M_pawnGoes_13 : decode bb_M_pawnGoes 13 = .ok (.istore 4, 2) := by decide +kernel
theorem dd_M_pawnGoes_15 : decode bb_M_pawnGoes 15 = .ok (.iload_n 2, 1) := by decide +kernel
theorem dd_M_pawnGoes_16 : decode bb_M_pawnGoes 16 = .ok (.bipush 8, 2) := by decide +kernel
theorem dd_M_pawnGoes_18 : decode bb_M_pawnGoes 18 = .ok (.idiv, 1) := by decide +kernel
theorem dd_M_pawnGoes_19 : decode bb_M_pawnGoes 19 = .ok (.iload 4, 2) := by decide +kernel
theorem dd_M_pawnGoes_21 : decode bb_M_pawnGoes 21 = .ok (.if_icmp .ne 20, 3) := by decide +kernel
theorem dd_M_pawnGoes_24 : decode bb_M_pawnGoes 24 = .ok (.iload_n 3, 1) := by decide +kernel
theorem dd_M_pawnGoes_25 : decode bb_M_pawnGoes 25 = .ok (.iconst 2, 1) := by decide +kernel
theorem dd_M_pawnGoes_26 : decode bb_M_pawnGoes 26 = .ok (.iconst 5, 1) := by decide +kernel
theorem dd_M_pawnGoes_27 : decode bb_M_pawnGoes 27 = .ok (.invokestatic 98, 3) := by decide +kernel
theorem dd_M_pawnGoes_30 : decode bb_M_pawnGoes 30 = .ok (.ifCond .ne 7, 3) := by decide +kernel
theorem dd_M_pawnGoes_33 : decode bb_M_pawnGoes 33 = .ok (.iconst 1, 1) := by decide +kernel
theorem dd_M_pawnGoes_34 : decode bb_M_pawnGoes 34 = .ok (.goto 16, 3) := by decide +kernel
theorem dd_M_pawnGoes_37 : decode bb_M_pawnGoes 37 = .ok (.iconst 0, 1) := by decide +kernel
theorem dd_M_pawnGoes_38 : decode bb_M_pawnGoes 38 = .ok (.goto 12, 3) := by decide +kernel
theorem dd_M_pawnGoes_41 : decode bb_M_pawnGoes 41 = .ok (.iload_n 3, 1) := by decide +kernel
theorem dd_M_pawnGoes_42 : decode bb_M_pawnGoes 42 = .ok (.ifCond .ne 7, 3) := by decide +kernel
theorem dd_M_pawnGoes_45 : decode bb_M_pawnGoes 45 = .ok (.iconst 1, 1) := by decide +kernel
theorem dd_M_pawnGoes_46 : decode bb_M_pawnGoes 46 = .ok (.goto 4, 3) := by decide +kernel
theorem dd_M_pawnGoes_49 : decode bb_M_pawnGoes 49 = .ok (.iconst 0, 1) := by decide +kernel
theorem dd_M_pawnGoes_50 : decode bb_M_pawnGoes 50 = .ok (.istore 5, 2) := by decide +kernel
theorem dd_M_pawnGoes_52 : decode bb_M_pawnGoes 52 = .ok (.iload_n 1, 1) := by decide +kernel
theorem dd_M_pawnGoes_53 : decode bb_M_pawnGoes 53 = .ok (.bipush 8, 2) := by decide +kernel
theorem dd_M_pawnGoes_55 : decode bb_M_pawnGoes 55 = .ok (.aload_n 0, 1) := by decide +kernel
theorem dd_M_pawnGoes_56 : decode bb_M_pawnGoes 56 = .ok (.getfield 95, 3) := by decide +kernel
theorem dd_M_pawnGoes_59 : decode bb_M_pawnGoes 59 = .ok (.invokestatic 76, 3) := by decide +kernel
theorem dd_M_pawnGoes_62 : decode bb_M_pawnGoes 62 = .ok (.imul, 1) := by decide +kernel
theorem dd_M_pawnGoes_63 : decode bb_M_pawnGoes 63 = .ok (.iadd, 1) := by decide +kernel
theorem dd_M_pawnGoes_64 : decode bb_M_pawnGoes 64 = .ok (.istore 6, 2) := by decide +kernel
theorem dd_M_pawnGoes_66 : decode bb_M_pawnGoes 66 = .ok (.iload_n 2, 1) := by decide +kernel
theorem dd_M_pawnGoes_67 : decode bb_M_pawnGoes 67 = .ok (.iload 6, 2) := by decide +kernel
theorem dd_M_pawnGoes_69 : decode bb_M_pawnGoes 69 = .ok (.if_icmp .ne 16, 3) := by decide +kernel
theorem dd_M_pawnGoes_72 : decode bb_M_pawnGoes 72 = .ok (.aload_n 0, 1) := by decide +kernel
theorem dd_M_pawnGoes_73 : decode bb_M_pawnGoes 73 = .ok (.getfield 7, 3) := by decide +kernel
theorem dd_M_pawnGoes_76 : decode bb_M_pawnGoes 76 = .ok (.iload_n 2, 1) := by decide +kernel
theorem dd_M_pawnGoes_77 : decode bb_M_pawnGoes 77 = .ok (.iaload, 1) := by decide +kernel
theorem dd_M_pawnGoes_78 : decode bb_M_pawnGoes 78 = .ok (.ifCond .ne 7, 3) := by decide +kernel
theorem dd_M_pawnGoes_81 : decode bb_M_pawnGoes 81 = .ok (.iconst 1, 1) := by decide +kernel
theorem dd_M_pawnGoes_82 : decode bb_M_pawnGoes 82 = .ok (.goto 4, 3) := by decide +kernel
theorem dd_M_pawnGoes_85 : decode bb_M_pawnGoes 85 = .ok (.iconst 0, 1) := by decide +kernel
theorem dd_M_pawnGoes_86 : decode bb_M_pawnGoes 86 = .ok (.istore 7, 2) := by decide +kernel
theorem dd_M_pawnGoes_88 : decode bb_M_pawnGoes 88 = .ok (.iload_n 1, 1) := by decide +kernel
theorem dd_M_pawnGoes_89 : decode bb_M_pawnGoes 89 = .ok (.bipush 8, 2) := by decide +kernel
theorem dd_M_pawnGoes_91 : decode bb_M_pawnGoes 91 = .ok (.idiv, 1) := by decide +kernel
theorem dd_M_pawnGoes_92 : decode bb_M_pawnGoes 92 = .ok (.aload_n 0, 1) := by decide +kernel
theorem dd_M_pawnGoes_93 : decode bb_M_pawnGoes 93 = .ok (.getfield 95, 3) := by decide +kernel
theorem dd_M_pawnGoes_96 : decode bb_M_pawnGoes 96 = .ok (.ifCond .ne 7, 3) := by decide +kernel
theorem dd_M_pawnGoes_99 : decode bb_M_pawnGoes 99 = .ok (.iconst 1, 1) := by decide +kernel
theorem dd_M_pawnGoes_100 : decode bb_M_pawnGoes 100 = .ok (.goto 5, 3) := by decide +kernel
theorem dd_M_pawnGoes_103 : decode bb_M_pawnGoes 103 = .ok (.bipush 6, 2) := by decide +kernel
theorem dd_M_pawnGoes_105 : decode bb_M_pawnGoes 105 = .ok (.if_icmp .ne 43, 3) := by decide +kernel
theorem dd_M_pawnGoes_108 : decode bb_M_pawnGoes 108 = .ok (.iload_n 2, 1) := by decide +kernel
theorem dd_M_pawnGoes_109 : decode bb_M_pawnGoes 109 = .ok (.iload 6, 2) := by decide +kernel
theorem dd_M_pawnGoes_111 : decode bb_M_pawnGoes 111 = .ok (.bipush 8, 2) := by decide +kernel
theorem dd_M_pawnGoes_113 : decode bb_M_pawnGoes 113 = .ok (.aload_n 0, 1) := by decide +kernel
theorem dd_M_pawnGoes_114 : decode bb_M_pawnGoes 114 = .ok (.getfield 95, 3) := by decide +kernel
theorem dd_M_pawnGoes_117 : decode bb_M_pawnGoes 117 = .ok (.invokestatic 76, 3) := by decide +kernel
theorem dd_M_pawnGoes_120 : decode bb_M_pawnGoes 120 = .ok (.imul, 1) := by decide +kernel
theorem dd_M_pawnGoes_121 : decode bb_M_pawnGoes 121 = .ok (.iadd, 1) := by decide +kernel
theorem dd_M_pawnGoes_122 : decode bb_M_pawnGoes 122 = .ok (.if_icmp .ne 26, 3) := by decide +kernel
theorem dd_M_pawnGoes_125 : decode bb_M_pawnGoes 125 = .ok (.aload_n 0, 1) := by decide +kernel
theorem dd_M_pawnGoes_126 : decode bb_M_pawnGoes 126 = .ok (.getfield 7, 3) := by decide +kernel
theorem dd_M_pawnGoes_129 : decode bb_M_pawnGoes 129 = .ok (.iload 6, 2) := by decide +kernel
theorem dd_M_pawnGoes_131 : decode bb_M_pawnGoes 131 = .ok (.iaload, 1) := by decide +kernel
theorem dd_M_pawnGoes_132 : decode bb_M_pawnGoes 132 = .ok (.ifCond .ne 16, 3) := by decide +kernel
theorem dd_M_pawnGoes_135 : decode bb_M_pawnGoes 135 = .ok (.aload_n 0, 1) := by decide +kernel
theorem dd_M_pawnGoes_136 : decode bb_M_pawnGoes 136 = .ok (.getfield 7, 3) := by decide +kernel
theorem dd_M_pawnGoes_139 : decode bb_M_pawnGoes 139 = .ok (.iload_n 2, 1) := by decide +kernel
theorem dd_M_pawnGoes_140 : decode bb_M_pawnGoes 140 = .ok (.iaload, 1) := by decide +kernel
theorem dd_M_pawnGoes_141 : decode bb_M_pawnGoes 141 = .ok (.ifCond .ne 7, 3) := by decide +kernel
theorem dd_M_pawnGoes_144 : decode bb_M_pawnGoes 144 = .ok (.iconst 1, 1) := by decide +kernel
theorem dd_M_pawnGoes_145 : decode bb_M_pawnGoes 145 = .ok (.goto 4, 3) := by decide +kernel
theorem dd_M_pawnGoes_148 : decode bb_M_pawnGoes 148 = .ok (.iconst 0, 1) := by decide +kernel
theorem dd_M_pawnGoes_149 : decode bb_M_pawnGoes 149 = .ok (.istore 8, 2) := by decide +kernel
theorem dd_M_pawnGoes_151 : decode bb_M_pawnGoes 151 = .ok (.iload 5, 2) := by decide +kernel
theorem dd_M_pawnGoes_153 : decode bb_M_pawnGoes 153 = .ok (.ifCond .eq 44, 3) := by decide +kernel
theorem dd_M_pawnGoes_156 : decode bb_M_pawnGoes 156 = .ok (.iload 7, 2) := by decide +kernel
theorem dd_M_pawnGoes_158 : decode bb_M_pawnGoes 158 = .ok (.ifCond .ne 35, 3) := by decide +kernel
theorem dd_M_pawnGoes_161 : decode bb_M_pawnGoes 161 = .ok (.iload 8, 2) := by decide +kernel
theorem dd_M_pawnGoes_163 : decode bb_M_pawnGoes 163 = .ok (.ifCond .ne 30, 3) := by decide +kernel
theorem dd_M_pawnGoes_166 : decode bb_M_pawnGoes 166 = .ok (.aload_n 0, 1) := by decide +kernel
theorem dd_M_pawnGoes_167 : decode bb_M_pawnGoes 167 = .ok (.iload_n 1, 1) := by decide +kernel
theorem dd_M_pawnGoes_168 : decode bb_M_pawnGoes 168 = .ok (.iload_n 2, 1) := by decide +kernel
theorem dd_M_pawnGoes_169 : decode bb_M_pawnGoes 169 = .ok (.invokevirtual 86, 3) := by decide +kernel
theorem dd_M_pawnGoes_172 : decode bb_M_pawnGoes 172 = .ok (.ifCond .eq 12, 3) := by decide +kernel
theorem dd_M_pawnGoes_175 : decode bb_M_pawnGoes 175 = .ok (.aload_n 0, 1) := by decide +kernel
theorem dd_M_pawnGoes_176 : decode bb_M_pawnGoes 176 = .ok (.getfield 7, 3) := by decide +kernel
theorem dd_M_pawnGoes_179 : decode bb_M_pawnGoes 179 = .ok (.iload_n 2, 1) := by decide +kernel
theorem dd_M_pawnGoes_180 : decode bb_M_pawnGoes 180 = .ok (.iaload, 1) := by decide +kernel
theorem dd_M_pawnGoes_181 : decode bb_M_pawnGoes 181 = .ok (.ifCond .ne 12, 3) := by decide +kernel
theorem dd_M_pawnGoes_184 : decode bb_M_pawnGoes 184 = .ok (.aload_n 0, 1) := by decide +kernel
theorem dd_M_pawnGoes_185 : decode bb_M_pawnGoes 185 = .ok (.iload_n 1, 1) := by decide +kernel
theorem dd_M_pawnGoes_186 : decode bb_M_pawnGoes 186 = .ok (.iload_n 2, 1) := by decide +kernel
theorem dd_M_pawnGoes_187 : decode bb_M_pawnGoes 187 = .ok (.invokevirtual 102, 3) := by decide +kernel
theorem dd_M_pawnGoes_190 : decode bb_M_pawnGoes 190 = .ok (.ifCond .eq 7, 3) := by decide +kernel
theorem dd_M_pawnGoes_193 : decode bb_M_pawnGoes 193 = .ok (.iconst 1, 1) := by decide +kernel
theorem dd_M_pawnGoes_194 : decode bb_M_pawnGoes 194 = .ok (.goto 4, 3) := by decide +kernel
theorem dd_M_pawnGoes_197 : decode bb_M_pawnGoes 197 = .ok (.iconst 0, 1) := by decide +kernel
theorem dd_M_pawnGoes_198 : decode bb_M_pawnGoes 198 = .ok (.ireturn, 1) := by decide +kernel
abbrev ty_M_pawnGoes : Type := Int32
noncomputable def bk_M_pawnGoes_198 (msd : Int32) (mps : Int32) (bd : Nat → Int32) (a1 : Int32) (a2 : Int32) (a3 : Int32) (s0 : Int32) : Option ty_M_pawnGoes := qq_ck (qq_b s0) <| some s0
noncomputable def bk_M_pawnGoes_197 (msd : Int32) (mps : Int32) (bd : Nat → Int32) (a1 : Int32) (a2 : Int32) (a3 : Int32) : Option ty_M_pawnGoes := bk_M_pawnGoes_198 msd mps bd a1 a2 a3 0
noncomputable def bk_M_pawnGoes_193 (msd : Int32) (mps : Int32) (bd : Nat → Int32) (a1 : Int32) (a2 : Int32) (a3 : Int32) : Option ty_M_pawnGoes := bk_M_pawnGoes_198 msd mps bd a1 a2 a3 1
noncomputable def bk_M_pawnGoes_184 (msd : Int32) (mps : Int32) (bd : Nat → Int32) (a1 : Int32) (a2 : Int32) (a3 : Int32) : Option ty_M_pawnGoes := (fn_M_passes msd mps bd a1 a2).bind fun r4001 => if r4001 = 0 then (bk_M_pawnGoes_197 msd mps bd a1 a2 a3) else (bk_M_pawnGoes_193 msd mps bd a1 a2 a3)
noncomputable def bk_M_pawnGoes_149 (msd : Int32) (mps : Int32) (bd : Nat → Int32) (a1 : Int32) (a2 : Int32) (a3 : Int32) (x5 : Int32) (x7 : Int32) (s0 : Int32) : Option ty_M_pawnGoes := if x5 = 0 then (bk_M_pawnGoes_197 msd mps bd a1 a2 a3) else (if x7 = 0 then (if s0 = 0 then ((fn_M_reaches bd a1 a2).bind fun r5001 => if r5001 = 0 then (bk_M_pawnGoes_184 msd mps bd a1 a2 a3) else (qq_ck (qq_in a2 64) <| if (bd a2.toNatClampNeg) = 0 then (bk_M_pawnGoes_184 msd mps bd a1 a2 a3) else (bk_M_pawnGoes_193 msd mps bd a1 a2 a3))) else (bk_M_pawnGoes_193 msd mps bd a1 a2 a3)) else (bk_M_pawnGoes_193 msd mps bd a1 a2 a3))
noncomputable def bk_M_pawnGoes_148 (msd : Int32) (mps : Int32) (bd : Nat → Int32) (a1 : Int32) (a2 : Int32) (a3 : Int32) (x5 : Int32) (x7 : Int32) : Option ty_M_pawnGoes := bk_M_pawnGoes_149 msd mps bd a1 a2 a3 x5 x7 0
noncomputable def bk_M_pawnGoes_105 (msd : Int32) (mps : Int32) (bd : Nat → Int32) (a1 : Int32) (a2 : Int32) (a3 : Int32) (x5 : Int32) (x6 : Int32) (x7 : Int32) (s0 : Int32) (s1 : Int32) : Option ty_M_pawnGoes := if s0 = s1 then ((fn_M_ahead msd).bind fun r7001 => if a2 = (x6 + (8 * r7001)) then (qq_ck (qq_in x6 64) <| if (bd x6.toNatClampNeg) = 0 then (qq_ck (qq_in a2 64) <| if (bd a2.toNatClampNeg) = 0 then (bk_M_pawnGoes_149 msd mps bd a1 a2 a3 x5 x7 1) else (bk_M_pawnGoes_148 msd mps bd a1 a2 a3 x5 x7)) else (bk_M_pawnGoes_148 msd mps bd a1 a2 a3 x5 x7)) else (bk_M_pawnGoes_148 msd mps bd a1 a2 a3 x5 x7)) else (bk_M_pawnGoes_148 msd mps bd a1 a2 a3 x5 x7)
noncomputable def bk_M_pawnGoes_86 (msd : Int32) (mps : Int32) (bd : Nat → Int32) (a1 : Int32) (a2 : Int32) (a3 : Int32) (x5 : Int32) (x6 : Int32) (s0 : Int32) : Option ty_M_pawnGoes := if msd = 0 then (bk_M_pawnGoes_105 msd mps bd a1 a2 a3 x5 x6 s0 (a1 / 8) 1) else (bk_M_pawnGoes_105 msd mps bd a1 a2 a3 x5 x6 s0 (a1 / 8) 6)
noncomputable def bk_M_pawnGoes_85 (msd : Int32) (mps : Int32) (bd : Nat → Int32) (a1 : Int32) (a2 : Int32) (a3 : Int32) (x5 : Int32) (x6 : Int32) : Option ty_M_pawnGoes := bk_M_pawnGoes_86 msd mps bd a1 a2 a3 x5 x6 0
noncomputable def bk_M_pawnGoes_50 (msd : Int32) (mps : Int32) (bd : Nat → Int32) (a1 : Int32) (a2 : Int32) (a3 : Int32) (s0 : Int32) : Option ty_M_pawnGoes := (fn_M_ahead msd).bind fun r10001 => qq_let (a1 + (8 * r10001)) fun v10002 => if a2 = v10002 then (qq_ck (qq_in a2 64) <| if (bd a2.toNatClampNeg) = 0 then (bk_M_pawnGoes_86 msd mps bd a1 a2 a3 s0 v10002 1) else (bk_M_pawnGoes_85 msd mps bd a1 a2 a3 s0 v10002)) else (bk_M_pawnGoes_85 msd mps bd a1 a2 a3 s0 v10002)
noncomputable def bk_M_pawnGoes_13 (msd : Int32) (mps : Int32) (bd : Nat → Int32) (a1 : Int32) (a2 : Int32) (a3 : Int32) (s0 : Int32) : Option ty_M_pawnGoes := if (a2 / 8) = s0 then ((fn_M_outside a3 2 5).bind fun r11001 => if r11001 = 0 then (bk_M_pawnGoes_50 msd mps bd a1 a2 a3 1) else (bk_M_pawnGoes_50 msd mps bd a1 a2 a3 0)) else (if a3 = 0 then (bk_M_pawnGoes_50 msd mps bd a1 a2 a3 1) else (bk_M_pawnGoes_50 msd mps bd a1 a2 a3 0))
noncomputable def fn_M_pawnGoes (msd : Int32) (mps : Int32) (bd : Nat → Int32) (a1 : Int32) (a2 : Int32) (a3 : Int32) : Option ty_M_pawnGoes := if msd = 0 then (bk_M_pawnGoes_13 msd mps bd a1 a2 a3 7) else (bk_M_pawnGoes_13 msd mps bd a1 a2 a3 0)
abbrev rm_M_pawnGoes : Room := { frames := 4, cells := 0, slots := 0, locals := 92 }
set_option maxHeartbeats 4000000 in
set_option maxRecDepth 100000 in
theorem ct_M_pawnGoes (l : Launch) (dC : Nat → ClassId) (dI : Nat → Nat → Nat) (cI cL cR : ClassId) (oM obd opa opS opR opG opP opQ okp okS okR okP okQ oli : Nat) (mth : Int32) (mpl : Int32) (msd : Int32) (mrt : Int32) (mps : Int32) (mqt : Int32) (mmd : Int32) (bd : Nat → Int32) (pa : Nat → Int32) (pS : Nat → Int32) (pR : Nat → Int32) (pG : Nat → Int32) (pP : Nat → Int32) (pQ : Nat → Int32) (kp : Nat → Int32) (kS : Nat → Int32) (kR : Nat → Int32) (kP : Nat → Int32) (kQ : Nat → Int32) (li : Nat → Int32) (a1 : Int32) (a2 : Int32) (a3 : Int32) {rr : Int32} (hf : fn_M_pawnGoes msd mps bd a1 a2 a3 = some rr) : qq_det l yy_M_pawnGoes (ww_of yy_M_pawnGoes bb_M_pawnGoes 9 (some .boolean)) rm_M_pawnGoes (dC, dI) (qq_ty cI cL cR) [.ref oM, .int a1, .int a2, .int a3] [(oM, .inr (5, [.int mth, .int mpl, .ref obd, .int msd, .int mrt, .int mps, .int mqt, .int mmd, .ref opa, .ref opS, .ref opR, .ref opG, .ref opP, .ref opQ, .ref okp, .ref okS, .ref okR, .ref okP, .ref okQ, .ref oli])), (obd, .inl (cI, 64, .inl bd)), (opa, .inl (cI, 9664, .inl pa)), (opS, .inl (cI, 151, .inl pS)), (opR, .inl (cI, 151, .inl pR)), (opG, .inl (cI, 151, .inl pG)), (opP, .inl (cI, 151, .inl pP)), (opQ, .inl (cI, 151, .inl pQ)), (okp, .inl (cI, 256, .inl kp)), (okS, .inl (cI, 4, .inl kS)), (okR, .inl (cI, 4, .inl kR)), (okP, .inl (cI, 4, .inl kP)), (okQ, .inl (cI, 4, .inl kQ)), (oli, .inl (cI, 1320, .inl li))] (some (.int rr)) [(oM, .inr (5, [.int mth, .int mpl, .ref obd, .int msd, .int mrt, .int mps, .int mqt, .int mmd, .ref opa, .ref opS, .ref opR, .ref opG, .ref opP, .ref opQ, .ref okp, .ref okS, .ref okR, .ref okP, .ref okQ, .ref oli])), (obd, .inl (cI, 64, .inl bd)), (opa, .inl (cI, 9664, .inl pa)), (opS, .inl (cI, 151, .inl pS)), (opR, .inl (cI, 151, .inl pR)), (opG, .inl (cI, 151, .inl pG)), (opP, .inl (cI, 151, .inl pP)), (opQ, .inl (cI, 151, .inl pQ)), (okp, .inl (cI, 256, .inl kp)), (okS, .inl (cI, 4, .inl kS)), (okR, .inl (cI, 4, .inl kR)), (okP, .inl (cI, 4, .inl kP)), (okQ, .inl (cI, 4, .inl kQ)), (oli, .inl (cI, 1320, .inl li))] := by
  refine qq_of (own := RR_M) (by decide) rfl (Nat.le_of_ble_eq_true rfl) ?_
  intro p e s m below meth c A Q ls hx hb hml hr hlocks hown hts hK hA hT hN hP hD hS hl hQ
  have hl : lv_has ls 9 [(0, .ref oM), (1, .int a1), (2, .int a2), (3, .int a3)] := hl
  have hJ198 : ∀ (s0 : Int32) (H : Heap) (locs : List Loc) (ls : Array Slot), lv_has ls 9 [] → va_P (dC, dI) classes [(oM, .inr (5, [.int mth, .int mpl, .ref obd, .int msd, .int mrt, .int mps, .int mqt, .int mmd, .ref opa, .ref opS, .ref opR, .ref opG, .ref opP, .ref opQ, .ref okp, .ref okS, .ref okR, .ref okP, .ref okQ, .ref oli])), (obd, .inl (cI, 64, .inl bd)), (opa, .inl (cI, 9664, .inl pa)), (opS, .inl (cI, 151, .inl pS)), (opR, .inl (cI, 151, .inl pR)), (opG, .inl (cI, 151, .inl pG)), (opP, .inl (cI, 151, .inl pP)), (opQ, .inl (cI, 151, .inl pQ)), (okp, .inl (cI, 256, .inl kp)), (okS, .inl (cI, 4, .inl kS)), (okR, .inl (cI, 4, .inl kR)), (okP, .inl (cI, 4, .inl kP)), (okQ, .inl (cI, 4, .inl kQ)), (oli, .inl (cI, 1320, .inl li))] H → va_D A [(oM, .inr (5, [.int mth, .int mpl, .ref obd, .int msd, .int mrt, .int mps, .int mqt, .int mmd, .ref opa, .ref opS, .ref opR, .ref opG, .ref opP, .ref opQ, .ref okp, .ref okS, .ref okR, .ref okP, .ref okQ, .ref oli])), (obd, .inl (cI, 64, .inl bd)), (opa, .inl (cI, 9664, .inl pa)), (opS, .inl (cI, 151, .inl pS)), (opR, .inl (cI, 151, .inl pR)), (opG, .inl (cI, 151, .inl pG)), (opP, .inl (cI, 151, .inl pP)), (opQ, .inl (cI, 151, .inl pQ)), (okp, .inl (cI, 256, .inl kp)), (okS, .inl (cI, 4, .inl kS)), (okR, .inl (cI, 4, .inl kR)), (okP, .inl (cI, 4, .inl kP)), (okQ, .inl (cI, 4, .inl kQ)), (oli, .inl (cI, 1320, .inl li))] → va_S A s.heap H locs → bk_M_pawnGoes_198 msd mps bd a1 a2 a3 s0 = some rr → W p l e rm_M_pawnGoes s m ([.ref oM, .int a1, .int a2, .int a3] : List Value).toArray below meth c H locs 0 0 Q (F0 m 198 ls [.int s0]) := by
    intro s0 H locs ls hl hP hD hS hf
    rw [bk_M_pawnGoes_198] at hf
    obtain ⟨hzb, hf⟩ := qq_ckE hf
    cases hf
    exact qq_zret hx hb hr (qq_bE hzb) hlocks hQ hP hD hK hS dd_M_pawnGoes_198
  have hJ197 : ∀  (H : Heap) (locs : List Loc) (ls : Array Slot), lv_has ls 9 [] → va_P (dC, dI) classes [(oM, .inr (5, [.int mth, .int mpl, .ref obd, .int msd, .int mrt, .int mps, .int mqt, .int mmd, .ref opa, .ref opS, .ref opR, .ref opG, .ref opP, .ref opQ, .ref okp, .ref okS, .ref okR, .ref okP, .ref okQ, .ref oli])), (obd, .inl (cI, 64, .inl bd)), (opa, .inl (cI, 9664, .inl pa)), (opS, .inl (cI, 151, .inl pS)), (opR, .inl (cI, 151, .inl pR)), (opG, .inl (cI, 151, .inl pG)), (opP, .inl (cI, 151, .inl pP)), (opQ, .inl (cI, 151, .inl pQ)), (okp, .inl (cI, 256, .inl kp)), (okS, .inl (cI, 4, .inl kS)), (okR, .inl (cI, 4, .inl kR)), (okP, .inl (cI, 4, .inl kP)), (okQ, .inl (cI, 4, .inl kQ)), (oli, .inl (cI, 1320, .inl li))] H → va_D A [(oM, .inr (5, [.int mth, .int mpl, .ref obd, .int msd, .int mrt, .int mps, .int mqt, .int mmd, .ref opa, .ref opS, .ref opR, .ref opG, .ref opP, .ref opQ, .ref okp, .ref okS, .ref okR, .ref okP, .ref okQ, .ref oli])), (obd, .inl (cI, 64, .inl bd)), (opa, .inl (cI, 9664, .inl pa)), (opS, .inl (cI, 151, .inl pS)), (opR, .inl (cI, 151, .inl pR)), (opG, .inl (cI, 151, .inl pG)), (opP, .inl (cI, 151, .inl pP)), (opQ, .inl (cI, 151, .inl pQ)), (okp, .inl (cI, 256, .inl kp)), (okS, .inl (cI, 4, .inl kS)), (okR, .inl (cI, 4, .inl kR)), (okP, .inl (cI, 4, .inl kP)), (okQ, .inl (cI, 4, .inl kQ)), (oli, .inl (cI, 1320, .inl li))] → va_S A s.heap H locs → bk_M_pawnGoes_197 msd mps bd a1 a2 a3 = some rr → W p l e rm_M_pawnGoes s m ([.ref oM, .int a1, .int a2, .int a3] : List Value).toArray below meth c H locs 0 0 Q (F0 m 197 ls []) := by
    intro  H locs ls hl hP hD hS hf
    rw [bk_M_pawnGoes_197] at hf
    refine lv_iconst (v := 0) hx hb dd_M_pawnGoes_197 (by decide) ?_
    exact hJ198 0 _ _ _ (lv_sub hl [] rfl) hP hD hS hf
  have hJ193 : ∀  (H : Heap) (locs : List Loc) (ls : Array Slot), lv_has ls 9 [] → va_P (dC, dI) classes [(oM, .inr (5, [.int mth, .int mpl, .ref obd, .int msd, .int mrt, .int mps, .int mqt, .int mmd, .ref opa, .ref opS, .ref opR, .ref opG, .ref opP, .ref opQ, .ref okp, .ref okS, .ref okR, .ref okP, .ref okQ, .ref oli])), (obd, .inl (cI, 64, .inl bd)), (opa, .inl (cI, 9664, .inl pa)), (opS, .inl (cI, 151, .inl pS)), (opR, .inl (cI, 151, .inl pR)), (opG, .inl (cI, 151, .inl pG)), (opP, .inl (cI, 151, .inl pP)), (opQ, .inl (cI, 151, .inl pQ)), (okp, .inl (cI, 256, .inl kp)), (okS, .inl (cI, 4, .inl kS)), (okR, .inl (cI, 4, .inl kR)), (okP, .inl (cI, 4, .inl kP)), (okQ, .inl (cI, 4, .inl kQ)), (oli, .inl (cI, 1320, .inl li))] H → va_D A [(oM, .inr (5, [.int mth, .int mpl, .ref obd, .int msd, .int mrt, .int mps, .int mqt, .int mmd, .ref opa, .ref opS, .ref opR, .ref opG, .ref opP, .ref opQ, .ref okp, .ref okS, .ref okR, .ref okP, .ref okQ, .ref oli])), (obd, .inl (cI, 64, .inl bd)), (opa, .inl (cI, 9664, .inl pa)), (opS, .inl (cI, 151, .inl pS)), (opR, .inl (cI, 151, .inl pR)), (opG, .inl (cI, 151, .inl pG)), (opP, .inl (cI, 151, .inl pP)), (opQ, .inl (cI, 151, .inl pQ)), (okp, .inl (cI, 256, .inl kp)), (okS, .inl (cI, 4, .inl kS)), (okR, .inl (cI, 4, .inl kR)), (okP, .inl (cI, 4, .inl kP)), (okQ, .inl (cI, 4, .inl kQ)), (oli, .inl (cI, 1320, .inl li))] → va_S A s.heap H locs → bk_M_pawnGoes_193 msd mps bd a1 a2 a3 = some rr → W p l e rm_M_pawnGoes s m ([.ref oM, .int a1, .int a2, .int a3] : List Value).toArray below meth c H locs 0 0 Q (F0 m 193 ls []) := by
    intro  H locs ls hl hP hD hS hf
    rw [bk_M_pawnGoes_193] at hf
    refine lv_iconst (v := 1) hx hb dd_M_pawnGoes_193 (by decide) ?_
    refine lv_goto (tgt := 198) hx hb dd_M_pawnGoes_194 (by decide) ?_
    exact hJ198 1 _ _ _ (lv_sub hl [] rfl) hP hD hS hf
  have hJ184 : ∀  (H : Heap) (locs : List Loc) (ls : Array Slot), lv_has ls 9 [(0, .ref oM), (1, .int a1), (2, .int a2)] → va_P (dC, dI) classes [(oM, .inr (5, [.int mth, .int mpl, .ref obd, .int msd, .int mrt, .int mps, .int mqt, .int mmd, .ref opa, .ref opS, .ref opR, .ref opG, .ref opP, .ref opQ, .ref okp, .ref okS, .ref okR, .ref okP, .ref okQ, .ref oli])), (obd, .inl (cI, 64, .inl bd)), (opa, .inl (cI, 9664, .inl pa)), (opS, .inl (cI, 151, .inl pS)), (opR, .inl (cI, 151, .inl pR)), (opG, .inl (cI, 151, .inl pG)), (opP, .inl (cI, 151, .inl pP)), (opQ, .inl (cI, 151, .inl pQ)), (okp, .inl (cI, 256, .inl kp)), (okS, .inl (cI, 4, .inl kS)), (okR, .inl (cI, 4, .inl kR)), (okP, .inl (cI, 4, .inl kP)), (okQ, .inl (cI, 4, .inl kQ)), (oli, .inl (cI, 1320, .inl li))] H → va_D A [(oM, .inr (5, [.int mth, .int mpl, .ref obd, .int msd, .int mrt, .int mps, .int mqt, .int mmd, .ref opa, .ref opS, .ref opR, .ref opG, .ref opP, .ref opQ, .ref okp, .ref okS, .ref okR, .ref okP, .ref okQ, .ref oli])), (obd, .inl (cI, 64, .inl bd)), (opa, .inl (cI, 9664, .inl pa)), (opS, .inl (cI, 151, .inl pS)), (opR, .inl (cI, 151, .inl pR)), (opG, .inl (cI, 151, .inl pG)), (opP, .inl (cI, 151, .inl pP)), (opQ, .inl (cI, 151, .inl pQ)), (okp, .inl (cI, 256, .inl kp)), (okS, .inl (cI, 4, .inl kS)), (okR, .inl (cI, 4, .inl kR)), (okP, .inl (cI, 4, .inl kP)), (okQ, .inl (cI, 4, .inl kQ)), (oli, .inl (cI, 1320, .inl li))] → va_S A s.heap H locs → bk_M_pawnGoes_184 msd mps bd a1 a2 a3 = some rr → W p l e rm_M_pawnGoes s m ([.ref oM, .int a1, .int a2, .int a3] : List Value).toArray below meth c H locs 0 0 Q (F0 m 184 ls []) := by
    intro  H locs ls hl hP hD hS hf
    rw [bk_M_pawnGoes_184] at hf
    refine lv_aload_n hx hb dd_M_pawnGoes_184 rfl (lv_at hl 0 rfl) ?_
    refine lv_iload_n hx hb dd_M_pawnGoes_185 rfl (lv_at hl 1 rfl) ?_
    refine lv_iload_n hx hb dd_M_pawnGoes_186 rfl (lv_at hl 2 rfl) ?_
    obtain ⟨r4001, hy4001, hf⟩ := qq_bd hf
    refine qq_V (As := [.int a1, .int a2]) (rest := []) (wr := []) (wf := [(oM, .inr (5, [.int mth, .int mpl, .ref obd, .int msd, .int mrt, .int mps, .int mqt, .int mmd, .ref opa, .ref opS, .ref opR, .ref opG, .ref opP, .ref opQ, .ref okp, .ref okS, .ref okR, .ref okP, .ref okQ, .ref oli])), (obd, .inl (cI, 64, .inl bd)), (opa, .inl (cI, 9664, .inl pa)), (opS, .inl (cI, 151, .inl pS)), (opR, .inl (cI, 151, .inl pR)), (opG, .inl (cI, 151, .inl pG)), (opP, .inl (cI, 151, .inl pP)), (opQ, .inl (cI, 151, .inl pQ)), (okp, .inl (cI, 256, .inl kp)), (okS, .inl (cI, 4, .inl kS)), (okR, .inl (cI, 4, .inl kR)), (okP, .inl (cI, 4, .inl kP)), (okQ, .inl (cI, 4, .inl kQ)), (oli, .inl (cI, 1320, .inl li))]) ⟨hx, hb, hml, hown, hts⟩ (ct_M_passes l dC dI cI cL cR oM obd opa opS opR opG opP opQ okp okS okR okP okQ oli mth mpl msd mrt mps mqt mmd bd pa pS pR pG pP pQ kp kS kR kP kQ li a1 a2 hy4001) mm_234 mm_235 mm_236 mm_233 mm_211 hd_M_passes (by decide) qq_00 hP hD hK hS hA hT hN (q0 := 0) (ci := 5) rfl rfl [0, 1, 2, 3, 4, 5, 6, 7, 8, 9, 10, 11, 12, 13] [] [0, 1, 2, 3, 4, 5, 6, 7, 8, 9, 10, 11, 12, 13] rfl rfl rfl (by decide) rfl hl.1 rfl (Nat.le_of_ble_eq_true rfl) dd_M_pawnGoes_187 (fun H locs hP hD hS => ?_)
    refine W.eq (g2 := F0 m 190 ls [.int r4001]) rfl ?_
    refine lv_if_eq (tgt := 197) hx hb dd_M_pawnGoes_190 (by decide) (fun hc => ?_) (fun hc => ?_)
    · replace hf := qq_t hc hf
      exact hJ197  _ _ _ (lv_sub hl [] rfl) hP hD hS hf
    · replace hf := qq_f hc hf
      exact hJ193  _ _ _ (lv_sub hl [] rfl) hP hD hS hf
  have hJ149 : ∀ (x5 : Int32) (x7 : Int32) (s0 : Int32) (H : Heap) (locs : List Loc) (ls : Array Slot), lv_has ls 9 [(0, .ref oM), (1, .int a1), (2, .int a2), (5, .int x5), (7, .int x7)] → va_P (dC, dI) classes [(oM, .inr (5, [.int mth, .int mpl, .ref obd, .int msd, .int mrt, .int mps, .int mqt, .int mmd, .ref opa, .ref opS, .ref opR, .ref opG, .ref opP, .ref opQ, .ref okp, .ref okS, .ref okR, .ref okP, .ref okQ, .ref oli])), (obd, .inl (cI, 64, .inl bd)), (opa, .inl (cI, 9664, .inl pa)), (opS, .inl (cI, 151, .inl pS)), (opR, .inl (cI, 151, .inl pR)), (opG, .inl (cI, 151, .inl pG)), (opP, .inl (cI, 151, .inl pP)), (opQ, .inl (cI, 151, .inl pQ)), (okp, .inl (cI, 256, .inl kp)), (okS, .inl (cI, 4, .inl kS)), (okR, .inl (cI, 4, .inl kR)), (okP, .inl (cI, 4, .inl kP)), (okQ, .inl (cI, 4, .inl kQ)), (oli, .inl (cI, 1320, .inl li))] H → va_D A [(oM, .inr (5, [.int mth, .int mpl, .ref obd, .int msd, .int mrt, .int mps, .int mqt, .int mmd, .ref opa, .ref opS, .ref opR, .ref opG, .ref opP, .ref opQ, .ref okp, .ref okS, .ref okR, .ref okP, .ref okQ, .ref oli])), (obd, .inl (cI, 64, .inl bd)), (opa, .inl (cI, 9664, .inl pa)), (opS, .inl (cI, 151, .inl pS)), (opR, .inl (cI, 151, .inl pR)), (opG, .inl (cI, 151, .inl pG)), (opP, .inl (cI, 151, .inl pP)), (opQ, .inl (cI, 151, .inl pQ)), (okp, .inl (cI, 256, .inl kp)), (okS, .inl (cI, 4, .inl kS)), (okR, .inl (cI, 4, .inl kR)), (okP, .inl (cI, 4, .inl kP)), (okQ, .inl (cI, 4, .inl kQ)), (oli, .inl (cI, 1320, .inl li))] → va_S A s.heap H locs → bk_M_pawnGoes_149 msd mps bd a1 a2 a3 x5 x7 s0 = some rr → W p l e rm_M_pawnGoes s m ([.ref oM, .int a1, .int a2, .int a3] : List Value).toArray below meth c H locs 0 0 Q (F0 m 149 ls [.int s0]) := by
    intro x5 x7 s0 H locs ls hl hP hD hS hf
    rw [bk_M_pawnGoes_149] at hf
    refine lv_istore (lv' := [(8, .int s0), (0, .ref oM), (1, .int a1), (2, .int a2), (5, .int x5), (7, .int x7)]) hx hb dd_M_pawnGoes_149 hl (by decide) rfl (fun ls hl => ?_)
    refine lv_iload hx hb dd_M_pawnGoes_151 (lv_at hl 4 rfl) ?_
    refine lv_if_eq (tgt := 197) hx hb dd_M_pawnGoes_153 (by decide) (fun hc => ?_) (fun hc => ?_)
    · replace hf := qq_t hc hf
      exact hJ197  _ _ _ (lv_sub hl [] rfl) hP hD hS hf
    · replace hf := qq_f hc hf
      refine lv_iload hx hb dd_M_pawnGoes_156 (lv_at hl 5 rfl) ?_
      refine lv_if_ne (tgt := 193) hx hb dd_M_pawnGoes_158 (by decide) (fun hc => ?_) (fun hc => ?_)
      · replace hf := qq_f hc hf
        exact hJ193  _ _ _ (lv_sub hl [] rfl) hP hD hS hf
      · replace hf := qq_t hc hf
        refine lv_iload hx hb dd_M_pawnGoes_161 (lv_at hl 0 rfl) ?_
        refine lv_if_ne (tgt := 193) hx hb dd_M_pawnGoes_163 (by decide) (fun hc => ?_) (fun hc => ?_)
        · replace hf := qq_f hc hf
          exact hJ193  _ _ _ (lv_sub hl [] rfl) hP hD hS hf
        · replace hf := qq_t hc hf
          refine lv_aload_n hx hb dd_M_pawnGoes_166 rfl (lv_at hl 1 rfl) ?_
          refine lv_iload_n hx hb dd_M_pawnGoes_167 rfl (lv_at hl 2 rfl) ?_
          refine lv_iload_n hx hb dd_M_pawnGoes_168 rfl (lv_at hl 3 rfl) ?_
          obtain ⟨r5001, hy5001, hf⟩ := qq_bd hf
          refine qq_V (As := [.int a1, .int a2]) (rest := []) (wr := []) (wf := [(oM, .inr (5, [.int mth, .int mpl, .ref obd, .int msd, .int mrt, .int mps, .int mqt, .int mmd, .ref opa, .ref opS, .ref opR, .ref opG, .ref opP, .ref opQ, .ref okp, .ref okS, .ref okR, .ref okP, .ref okQ, .ref oli])), (obd, .inl (cI, 64, .inl bd)), (opa, .inl (cI, 9664, .inl pa)), (opS, .inl (cI, 151, .inl pS)), (opR, .inl (cI, 151, .inl pR)), (opG, .inl (cI, 151, .inl pG)), (opP, .inl (cI, 151, .inl pP)), (opQ, .inl (cI, 151, .inl pQ)), (okp, .inl (cI, 256, .inl kp)), (okS, .inl (cI, 4, .inl kS)), (okR, .inl (cI, 4, .inl kR)), (okP, .inl (cI, 4, .inl kP)), (okQ, .inl (cI, 4, .inl kQ)), (oli, .inl (cI, 1320, .inl li))]) ⟨hx, hb, hml, hown, hts⟩ (ct_M_reaches l dC dI cI cL cR oM obd opa opS opR opG opP opQ okp okS okR okP okQ oli mth mpl msd mrt mps mqt mmd bd pa pS pR pG pP pQ kp kS kR kP kQ li a1 a2 hy5001) mm_230 mm_231 mm_232 mm_229 mm_211 hd_M_reaches (by decide) qq_00 hP hD hK hS hA hT hN (q0 := 0) (ci := 5) rfl rfl [0, 1, 2, 3, 4, 5, 6, 7, 8, 9, 10, 11, 12, 13] [] [0, 1, 2, 3, 4, 5, 6, 7, 8, 9, 10, 11, 12, 13] rfl rfl rfl (by decide) rfl hl.1 rfl (Nat.le_of_ble_eq_true rfl) dd_M_pawnGoes_169 (fun H locs hP hD hS => ?_)
          refine W.eq (g2 := F0 m 172 ls [.int r5001]) rfl ?_
          refine lv_if_eq (tgt := 184) hx hb dd_M_pawnGoes_172 (by decide) (fun hc => ?_) (fun hc => ?_)
          · replace hf := qq_t hc hf
            exact hJ184  _ _ _ (lv_sub hl [1, 2, 3] rfl) hP hD hS hf
          · replace hf := qq_f hc hf
            refine lv_aload_n hx hb dd_M_pawnGoes_175 rfl (lv_at hl 1 rfl) ?_
            refine va_get (D := (dC, dI)) (ci := 5) (v := .ref obd) (C := RR_M) (T := FF_M) (N := 20) hx hb hts uu_M hown hK hP 0 rfl rfl 2 (by decide) (hts _ mm_209) (fun _ h9 => h9) rfl dd_M_pawnGoes_176 ?_
            refine lv_iload_n hx hb dd_M_pawnGoes_179 rfl (lv_at hl 3 rfl) ?_
            obtain ⟨hi5002, hf⟩ := qq_ckE hf
            refine va_iald (D := (dC, dI)) (f := bd) (n := 64) (cA := cI) hx hb hK hP 1 0 rfl rfl (qq_inE hi5002) dd_M_pawnGoes_180 ?_
            refine lv_if_ne (tgt := 193) hx hb dd_M_pawnGoes_181 (by decide) (fun hc => ?_) (fun hc => ?_)
            · replace hf := qq_f hc hf
              exact hJ193  _ _ _ (lv_sub hl [] rfl) hP hD hS hf
            · replace hf := qq_t hc hf
              exact hJ184  _ _ _ (lv_sub hl [1, 2, 3] rfl) hP hD hS hf
  have hJ148 : ∀ (x5 : Int32) (x7 : Int32) (H : Heap) (locs : List Loc) (ls : Array Slot), lv_has ls 9 [(0, .ref oM), (1, .int a1), (2, .int a2), (5, .int x5), (7, .int x7)] → va_P (dC, dI) classes [(oM, .inr (5, [.int mth, .int mpl, .ref obd, .int msd, .int mrt, .int mps, .int mqt, .int mmd, .ref opa, .ref opS, .ref opR, .ref opG, .ref opP, .ref opQ, .ref okp, .ref okS, .ref okR, .ref okP, .ref okQ, .ref oli])), (obd, .inl (cI, 64, .inl bd)), (opa, .inl (cI, 9664, .inl pa)), (opS, .inl (cI, 151, .inl pS)), (opR, .inl (cI, 151, .inl pR)), (opG, .inl (cI, 151, .inl pG)), (opP, .inl (cI, 151, .inl pP)), (opQ, .inl (cI, 151, .inl pQ)), (okp, .inl (cI, 256, .inl kp)), (okS, .inl (cI, 4, .inl kS)), (okR, .inl (cI, 4, .inl kR)), (okP, .inl (cI, 4, .inl kP)), (okQ, .inl (cI, 4, .inl kQ)), (oli, .inl (cI, 1320, .inl li))] H → va_D A [(oM, .inr (5, [.int mth, .int mpl, .ref obd, .int msd, .int mrt, .int mps, .int mqt, .int mmd, .ref opa, .ref opS, .ref opR, .ref opG, .ref opP, .ref opQ, .ref okp, .ref okS, .ref okR, .ref okP, .ref okQ, .ref oli])), (obd, .inl (cI, 64, .inl bd)), (opa, .inl (cI, 9664, .inl pa)), (opS, .inl (cI, 151, .inl pS)), (opR, .inl (cI, 151, .inl pR)), (opG, .inl (cI, 151, .inl pG)), (opP, .inl (cI, 151, .inl pP)), (opQ, .inl (cI, 151, .inl pQ)), (okp, .inl (cI, 256, .inl kp)), (okS, .inl (cI, 4, .inl kS)), (okR, .inl (cI, 4, .inl kR)), (okP, .inl (cI, 4, .inl kP)), (okQ, .inl (cI, 4, .inl kQ)), (oli, .inl (cI, 1320, .inl li))] → va_S A s.heap H locs → bk_M_pawnGoes_148 msd mps bd a1 a2 a3 x5 x7 = some rr → W p l e rm_M_pawnGoes s m ([.ref oM, .int a1, .int a2, .int a3] : List Value).toArray below meth c H locs 0 0 Q (F0 m 148 ls []) := by
    intro x5 x7 H locs ls hl hP hD hS hf
    rw [bk_M_pawnGoes_148] at hf
    refine lv_iconst (v := 0) hx hb dd_M_pawnGoes_148 (by decide) ?_
    exact hJ149 x5 x7 0 _ _ _ (lv_sub hl [0, 1, 2, 3, 4] rfl) hP hD hS hf
  have hJ105 : ∀ (x5 : Int32) (x6 : Int32) (x7 : Int32) (s0 : Int32) (s1 : Int32) (H : Heap) (locs : List Loc) (ls : Array Slot), lv_has ls 9 [(0, .ref oM), (1, .int a1), (2, .int a2), (5, .int x5), (6, .int x6), (7, .int x7)] → va_P (dC, dI) classes [(oM, .inr (5, [.int mth, .int mpl, .ref obd, .int msd, .int mrt, .int mps, .int mqt, .int mmd, .ref opa, .ref opS, .ref opR, .ref opG, .ref opP, .ref opQ, .ref okp, .ref okS, .ref okR, .ref okP, .ref okQ, .ref oli])), (obd, .inl (cI, 64, .inl bd)), (opa, .inl (cI, 9664, .inl pa)), (opS, .inl (cI, 151, .inl pS)), (opR, .inl (cI, 151, .inl pR)), (opG, .inl (cI, 151, .inl pG)), (opP, .inl (cI, 151, .inl pP)), (opQ, .inl (cI, 151, .inl pQ)), (okp, .inl (cI, 256, .inl kp)), (okS, .inl (cI, 4, .inl kS)), (okR, .inl (cI, 4, .inl kR)), (okP, .inl (cI, 4, .inl kP)), (okQ, .inl (cI, 4, .inl kQ)), (oli, .inl (cI, 1320, .inl li))] H → va_D A [(oM, .inr (5, [.int mth, .int mpl, .ref obd, .int msd, .int mrt, .int mps, .int mqt, .int mmd, .ref opa, .ref opS, .ref opR, .ref opG, .ref opP, .ref opQ, .ref okp, .ref okS, .ref okR, .ref okP, .ref okQ, .ref oli])), (obd, .inl (cI, 64, .inl bd)), (opa, .inl (cI, 9664, .inl pa)), (opS, .inl (cI, 151, .inl pS)), (opR, .inl (cI, 151, .inl pR)), (opG, .inl (cI, 151, .inl pG)), (opP, .inl (cI, 151, .inl pP)), (opQ, .inl (cI, 151, .inl pQ)), (okp, .inl (cI, 256, .inl kp)), (okS, .inl (cI, 4, .inl kS)), (okR, .inl (cI, 4, .inl kR)), (okP, .inl (cI, 4, .inl kP)), (okQ, .inl (cI, 4, .inl kQ)), (oli, .inl (cI, 1320, .inl li))] → va_S A s.heap H locs → bk_M_pawnGoes_105 msd mps bd a1 a2 a3 x5 x6 x7 s0 s1 = some rr → W p l e rm_M_pawnGoes s m ([.ref oM, .int a1, .int a2, .int a3] : List Value).toArray below meth c H locs 0 0 Q (F0 m 105 ls [.int s1, .int s0]) := by
    intro x5 x6 x7 s0 s1 H locs ls hl hP hD hS hf
    rw [bk_M_pawnGoes_105] at hf
    refine lv_icmp_ne (tgt := 148) hx hb dd_M_pawnGoes_105 (by decide) (fun hc => ?_) (fun hc => ?_)
    · replace hf := qq_f hc hf
      exact hJ148 x5 x7 _ _ _ (lv_sub hl [0, 1, 2, 3, 5] rfl) hP hD hS hf
    · replace hf := qq_t hc hf
      refine lv_iload_n hx hb dd_M_pawnGoes_108 rfl (lv_at hl 2 rfl) ?_
      refine lv_iload hx hb dd_M_pawnGoes_109 (lv_at hl 4 rfl) ?_
      refine lv_bipush (v := 8) hx hb dd_M_pawnGoes_111 (by decide) ?_
      refine lv_aload_n hx hb dd_M_pawnGoes_113 rfl (lv_at hl 0 rfl) ?_
      refine va_get (D := (dC, dI)) (ci := 5) (v := .int msd) (C := RR_M) (T := FF_M) (N := 20) hx hb hts uu_M hown hK hP 0 rfl rfl 3 (by decide) (hts _ mm_228) (fun _ h9 => h9) rfl dd_M_pawnGoes_114 ?_
      obtain ⟨r7001, hy7001, hf⟩ := qq_bd hf
      refine qq_S (As := [.int msd]) (rest := [.int 8, .int x6, .int a2]) (wr := [(oM, .inr (5, [.int mth, .int mpl, .ref obd, .int msd, .int mrt, .int mps, .int mqt, .int mmd, .ref opa, .ref opS, .ref opR, .ref opG, .ref opP, .ref opQ, .ref okp, .ref okS, .ref okR, .ref okP, .ref okQ, .ref oli])), (obd, .inl (cI, 64, .inl bd)), (opa, .inl (cI, 9664, .inl pa)), (opS, .inl (cI, 151, .inl pS)), (opR, .inl (cI, 151, .inl pR)), (opG, .inl (cI, 151, .inl pG)), (opP, .inl (cI, 151, .inl pP)), (opQ, .inl (cI, 151, .inl pQ)), (okp, .inl (cI, 256, .inl kp)), (okS, .inl (cI, 4, .inl kS)), (okR, .inl (cI, 4, .inl kR)), (okP, .inl (cI, 4, .inl kP)), (okQ, .inl (cI, 4, .inl kQ)), (oli, .inl (cI, 1320, .inl li))]) (wf := [(oM, .inr (5, [.int mth, .int mpl, .ref obd, .int msd, .int mrt, .int mps, .int mqt, .int mmd, .ref opa, .ref opS, .ref opR, .ref opG, .ref opP, .ref opQ, .ref okp, .ref okS, .ref okR, .ref okP, .ref okQ, .ref oli])), (obd, .inl (cI, 64, .inl bd)), (opa, .inl (cI, 9664, .inl pa)), (opS, .inl (cI, 151, .inl pS)), (opR, .inl (cI, 151, .inl pR)), (opG, .inl (cI, 151, .inl pG)), (opP, .inl (cI, 151, .inl pP)), (opQ, .inl (cI, 151, .inl pQ)), (okp, .inl (cI, 256, .inl kp)), (okS, .inl (cI, 4, .inl kS)), (okR, .inl (cI, 4, .inl kR)), (okP, .inl (cI, 4, .inl kP)), (okQ, .inl (cI, 4, .inl kQ)), (oli, .inl (cI, 1320, .inl li))]) ⟨hx, hb, hml, hown, hts⟩ (ct_M_ahead l dC dI cI cL cR msd hy7001) mm_219 mm_220 mm_218 mm_211 hd_M_ahead (by decide) qq_00 hP hD hK hS hA hT hN [] [0, 1, 2, 3, 4, 5, 6, 7, 8, 9, 10, 11, 12, 13] [0, 1, 2, 3, 4, 5, 6, 7, 8, 9, 10, 11, 12, 13] rfl rfl rfl (by decide) rfl hl.1 rfl (Nat.le_of_ble_eq_true rfl) dd_M_pawnGoes_117 (fun H locs hP hD hS => ?_)
      refine W.eq (g2 := F0 m 120 ls [.int r7001, .int 8, .int x6, .int a2]) rfl ?_
      refine lv_imul hx hb dd_M_pawnGoes_120 ?_
      refine lv_iadd hx hb dd_M_pawnGoes_121 ?_
      refine lv_icmp_ne (tgt := 148) hx hb dd_M_pawnGoes_122 (by decide) (fun hc => ?_) (fun hc => ?_)
      · replace hf := qq_f hc hf
        exact hJ148 x5 x7 _ _ _ (lv_sub hl [0, 1, 2, 3, 5] rfl) hP hD hS hf
      · replace hf := qq_t hc hf
        refine lv_aload_n hx hb dd_M_pawnGoes_125 rfl (lv_at hl 0 rfl) ?_
        refine va_get (D := (dC, dI)) (ci := 5) (v := .ref obd) (C := RR_M) (T := FF_M) (N := 20) hx hb hts uu_M hown hK hP 0 rfl rfl 2 (by decide) (hts _ mm_209) (fun _ h9 => h9) rfl dd_M_pawnGoes_126 ?_
        refine lv_iload hx hb dd_M_pawnGoes_129 (lv_at hl 4 rfl) ?_
        obtain ⟨hi7002, hf⟩ := qq_ckE hf
        refine va_iald (D := (dC, dI)) (f := bd) (n := 64) (cA := cI) hx hb hK hP 1 0 rfl rfl (qq_inE hi7002) dd_M_pawnGoes_131 ?_
        refine lv_if_ne (tgt := 148) hx hb dd_M_pawnGoes_132 (by decide) (fun hc => ?_) (fun hc => ?_)
        · replace hf := qq_f hc hf
          exact hJ148 x5 x7 _ _ _ (lv_sub hl [0, 1, 2, 3, 5] rfl) hP hD hS hf
        · replace hf := qq_t hc hf
          refine lv_aload_n hx hb dd_M_pawnGoes_135 rfl (lv_at hl 0 rfl) ?_
          refine va_get (D := (dC, dI)) (ci := 5) (v := .ref obd) (C := RR_M) (T := FF_M) (N := 20) hx hb hts uu_M hown hK hP 0 rfl rfl 2 (by decide) (hts _ mm_209) (fun _ h9 => h9) rfl dd_M_pawnGoes_136 ?_
          refine lv_iload_n hx hb dd_M_pawnGoes_139 rfl (lv_at hl 2 rfl) ?_
          obtain ⟨hi7003, hf⟩ := qq_ckE hf
          refine va_iald (D := (dC, dI)) (f := bd) (n := 64) (cA := cI) hx hb hK hP 1 0 rfl rfl (qq_inE hi7003) dd_M_pawnGoes_140 ?_
          refine lv_if_ne (tgt := 148) hx hb dd_M_pawnGoes_141 (by decide) (fun hc => ?_) (fun hc => ?_)
          · replace hf := qq_f hc hf
            exact hJ148 x5 x7 _ _ _ (lv_sub hl [0, 1, 2, 3, 5] rfl) hP hD hS hf
          · replace hf := qq_t hc hf
            refine lv_iconst (v := 1) hx hb dd_M_pawnGoes_144 (by decide) ?_
            refine lv_goto (tgt := 149) hx hb dd_M_pawnGoes_145 (by decide) ?_
            exact hJ149 x5 x7 1 _ _ _ (lv_sub hl [0, 1, 2, 3, 5] rfl) hP hD hS hf
  have hJ86 : ∀ (x5 : Int32) (x6 : Int32) (s0 : Int32) (H : Heap) (locs : List Loc) (ls : Array Slot), lv_has ls 9 [(0, .ref oM), (1, .int a1), (2, .int a2), (5, .int x5), (6, .int x6)] → va_P (dC, dI) classes [(oM, .inr (5, [.int mth, .int mpl, .ref obd, .int msd, .int mrt, .int mps, .int mqt, .int mmd, .ref opa, .ref opS, .ref opR, .ref opG, .ref opP, .ref opQ, .ref okp, .ref okS, .ref okR, .ref okP, .ref okQ, .ref oli])), (obd, .inl (cI, 64, .inl bd)), (opa, .inl (cI, 9664, .inl pa)), (opS, .inl (cI, 151, .inl pS)), (opR, .inl (cI, 151, .inl pR)), (opG, .inl (cI, 151, .inl pG)), (opP, .inl (cI, 151, .inl pP)), (opQ, .inl (cI, 151, .inl pQ)), (okp, .inl (cI, 256, .inl kp)), (okS, .inl (cI, 4, .inl kS)), (okR, .inl (cI, 4, .inl kR)), (okP, .inl (cI, 4, .inl kP)), (okQ, .inl (cI, 4, .inl kQ)), (oli, .inl (cI, 1320, .inl li))] H → va_D A [(oM, .inr (5, [.int mth, .int mpl, .ref obd, .int msd, .int mrt, .int mps, .int mqt, .int mmd, .ref opa, .ref opS, .ref opR, .ref opG, .ref opP, .ref opQ, .ref okp, .ref okS, .ref okR, .ref okP, .ref okQ, .ref oli])), (obd, .inl (cI, 64, .inl bd)), (opa, .inl (cI, 9664, .inl pa)), (opS, .inl (cI, 151, .inl pS)), (opR, .inl (cI, 151, .inl pR)), (opG, .inl (cI, 151, .inl pG)), (opP, .inl (cI, 151, .inl pP)), (opQ, .inl (cI, 151, .inl pQ)), (okp, .inl (cI, 256, .inl kp)), (okS, .inl (cI, 4, .inl kS)), (okR, .inl (cI, 4, .inl kR)), (okP, .inl (cI, 4, .inl kP)), (okQ, .inl (cI, 4, .inl kQ)), (oli, .inl (cI, 1320, .inl li))] → va_S A s.heap H locs → bk_M_pawnGoes_86 msd mps bd a1 a2 a3 x5 x6 s0 = some rr → W p l e rm_M_pawnGoes s m ([.ref oM, .int a1, .int a2, .int a3] : List Value).toArray below meth c H locs 0 0 Q (F0 m 86 ls [.int s0]) := by
    intro x5 x6 s0 H locs ls hl hP hD hS hf
    rw [bk_M_pawnGoes_86] at hf
    refine lv_istore (lv' := [(7, .int s0), (0, .ref oM), (1, .int a1), (2, .int a2), (5, .int x5), (6, .int x6)]) hx hb dd_M_pawnGoes_86 hl (by decide) rfl (fun ls hl => ?_)
    refine lv_iload_n hx hb dd_M_pawnGoes_88 rfl (lv_at hl 2 rfl) ?_
    refine lv_bipush (v := 8) hx hb dd_M_pawnGoes_89 (by decide) ?_
    refine lv_idiv hx hb dd_M_pawnGoes_91 (by decide) ?_
    refine lv_aload_n hx hb dd_M_pawnGoes_92 rfl (lv_at hl 1 rfl) ?_
    refine va_get (D := (dC, dI)) (ci := 5) (v := .int msd) (C := RR_M) (T := FF_M) (N := 20) hx hb hts uu_M hown hK hP 0 rfl rfl 3 (by decide) (hts _ mm_228) (fun _ h9 => h9) rfl dd_M_pawnGoes_93 ?_
    refine lv_if_ne (tgt := 103) hx hb dd_M_pawnGoes_96 (by decide) (fun hc => ?_) (fun hc => ?_)
    · replace hf := qq_f hc hf
      refine lv_bipush (v := 6) hx hb dd_M_pawnGoes_103 (by decide) ?_
      exact hJ105 x5 x6 s0 (a1 / 8) 6 _ _ _ (lv_sub hl [1, 2, 3, 4, 5, 0] rfl) hP hD hS hf
    · replace hf := qq_t hc hf
      refine lv_iconst (v := 1) hx hb dd_M_pawnGoes_99 (by decide) ?_
      refine lv_goto (tgt := 105) hx hb dd_M_pawnGoes_100 (by decide) ?_
      exact hJ105 x5 x6 s0 (a1 / 8) 1 _ _ _ (lv_sub hl [1, 2, 3, 4, 5, 0] rfl) hP hD hS hf
  have hJ85 : ∀ (x5 : Int32) (x6 : Int32) (H : Heap) (locs : List Loc) (ls : Array Slot), lv_has ls 9 [(0, .ref oM), (1, .int a1), (2, .int a2), (5, .int x5), (6, .int x6)] → va_P (dC, dI) classes [(oM, .inr (5, [.int mth, .int mpl, .ref obd, .int msd, .int mrt, .int mps, .int mqt, .int mmd, .ref opa, .ref opS, .ref opR, .ref opG, .ref opP, .ref opQ, .ref okp, .ref okS, .ref okR, .ref okP, .ref okQ, .ref oli])), (obd, .inl (cI, 64, .inl bd)), (opa, .inl (cI, 9664, .inl pa)), (opS, .inl (cI, 151, .inl pS)), (opR, .inl (cI, 151, .inl pR)), (opG, .inl (cI, 151, .inl pG)), (opP, .inl (cI, 151, .inl pP)), (opQ, .inl (cI, 151, .inl pQ)), (okp, .inl (cI, 256, .inl kp)), (okS, .inl (cI, 4, .inl kS)), (okR, .inl (cI, 4, .inl kR)), (okP, .inl (cI, 4, .inl kP)), (okQ, .inl (cI, 4, .inl kQ)), (oli, .inl (cI, 1320, .inl li))] H → va_D A [(oM, .inr (5, [.int mth, .int mpl, .ref obd, .int msd, .int mrt, .int mps, .int mqt, .int mmd, .ref opa, .ref opS, .ref opR, .ref opG, .ref opP, .ref opQ, .ref okp, .ref okS, .ref okR, .ref okP, .ref okQ, .ref oli])), (obd, .inl (cI, 64, .inl bd)), (opa, .inl (cI, 9664, .inl pa)), (opS, .inl (cI, 151, .inl pS)), (opR, .inl (cI, 151, .inl pR)), (opG, .inl (cI, 151, .inl pG)), (opP, .inl (cI, 151, .inl pP)), (opQ, .inl (cI, 151, .inl pQ)), (okp, .inl (cI, 256, .inl kp)), (okS, .inl (cI, 4, .inl kS)), (okR, .inl (cI, 4, .inl kR)), (okP, .inl (cI, 4, .inl kP)), (okQ, .inl (cI, 4, .inl kQ)), (oli, .inl (cI, 1320, .inl li))] → va_S A s.heap H locs → bk_M_pawnGoes_85 msd mps bd a1 a2 a3 x5 x6 = some rr → W p l e rm_M_pawnGoes s m ([.ref oM, .int a1, .int a2, .int a3] : List Value).toArray below meth c H locs 0 0 Q (F0 m 85 ls []) := by
    intro x5 x6 H locs ls hl hP hD hS hf
    rw [bk_M_pawnGoes_85] at hf
    refine lv_iconst (v := 0) hx hb dd_M_pawnGoes_85 (by decide) ?_
    exact hJ86 x5 x6 0 _ _ _ (lv_sub hl [0, 1, 2, 3, 4] rfl) hP hD hS hf
  have hJ50 : ∀ (s0 : Int32) (H : Heap) (locs : List Loc) (ls : Array Slot), lv_has ls 9 [(0, .ref oM), (1, .int a1), (2, .int a2)] → va_P (dC, dI) classes [(oM, .inr (5, [.int mth, .int mpl, .ref obd, .int msd, .int mrt, .int mps, .int mqt, .int mmd, .ref opa, .ref opS, .ref opR, .ref opG, .ref opP, .ref opQ, .ref okp, .ref okS, .ref okR, .ref okP, .ref okQ, .ref oli])), (obd, .inl (cI, 64, .inl bd)), (opa, .inl (cI, 9664, .inl pa)), (opS, .inl (cI, 151, .inl pS)), (opR, .inl (cI, 151, .inl pR)), (opG, .inl (cI, 151, .inl pG)), (opP, .inl (cI, 151, .inl pP)), (opQ, .inl (cI, 151, .inl pQ)), (okp, .inl (cI, 256, .inl kp)), (okS, .inl (cI, 4, .inl kS)), (okR, .inl (cI, 4, .inl kR)), (okP, .inl (cI, 4, .inl kP)), (okQ, .inl (cI, 4, .inl kQ)), (oli, .inl (cI, 1320, .inl li))] H → va_D A [(oM, .inr (5, [.int mth, .int mpl, .ref obd, .int msd, .int mrt, .int mps, .int mqt, .int mmd, .ref opa, .ref opS, .ref opR, .ref opG, .ref opP, .ref opQ, .ref okp, .ref okS, .ref okR, .ref okP, .ref okQ, .ref oli])), (obd, .inl (cI, 64, .inl bd)), (opa, .inl (cI, 9664, .inl pa)), (opS, .inl (cI, 151, .inl pS)), (opR, .inl (cI, 151, .inl pR)), (opG, .inl (cI, 151, .inl pG)), (opP, .inl (cI, 151, .inl pP)), (opQ, .inl (cI, 151, .inl pQ)), (okp, .inl (cI, 256, .inl kp)), (okS, .inl (cI, 4, .inl kS)), (okR, .inl (cI, 4, .inl kR)), (okP, .inl (cI, 4, .inl kP)), (okQ, .inl (cI, 4, .inl kQ)), (oli, .inl (cI, 1320, .inl li))] → va_S A s.heap H locs → bk_M_pawnGoes_50 msd mps bd a1 a2 a3 s0 = some rr → W p l e rm_M_pawnGoes s m ([.ref oM, .int a1, .int a2, .int a3] : List Value).toArray below meth c H locs 0 0 Q (F0 m 50 ls [.int s0]) := by
    intro s0 H locs ls hl hP hD hS hf
    rw [bk_M_pawnGoes_50] at hf
    refine lv_istore (lv' := [(5, .int s0), (0, .ref oM), (1, .int a1), (2, .int a2)]) hx hb dd_M_pawnGoes_50 hl (by decide) rfl (fun ls hl => ?_)
    refine lv_iload_n hx hb dd_M_pawnGoes_52 rfl (lv_at hl 2 rfl) ?_
    refine lv_bipush (v := 8) hx hb dd_M_pawnGoes_53 (by decide) ?_
    refine lv_aload_n hx hb dd_M_pawnGoes_55 rfl (lv_at hl 1 rfl) ?_
    refine va_get (D := (dC, dI)) (ci := 5) (v := .int msd) (C := RR_M) (T := FF_M) (N := 20) hx hb hts uu_M hown hK hP 0 rfl rfl 3 (by decide) (hts _ mm_228) (fun _ h9 => h9) rfl dd_M_pawnGoes_56 ?_
    obtain ⟨r10001, hy10001, hf⟩ := qq_bd hf
    refine qq_S (As := [.int msd]) (rest := [.int 8, .int a1]) (wr := [(oM, .inr (5, [.int mth, .int mpl, .ref obd, .int msd, .int mrt, .int mps, .int mqt, .int mmd, .ref opa, .ref opS, .ref opR, .ref opG, .ref opP, .ref opQ, .ref okp, .ref okS, .ref okR, .ref okP, .ref okQ, .ref oli])), (obd, .inl (cI, 64, .inl bd)), (opa, .inl (cI, 9664, .inl pa)), (opS, .inl (cI, 151, .inl pS)), (opR, .inl (cI, 151, .inl pR)), (opG, .inl (cI, 151, .inl pG)), (opP, .inl (cI, 151, .inl pP)), (opQ, .inl (cI, 151, .inl pQ)), (okp, .inl (cI, 256, .inl kp)), (okS, .inl (cI, 4, .inl kS)), (okR, .inl (cI, 4, .inl kR)), (okP, .inl (cI, 4, .inl kP)), (okQ, .inl (cI, 4, .inl kQ)), (oli, .inl (cI, 1320, .inl li))]) (wf := [(oM, .inr (5, [.int mth, .int mpl, .ref obd, .int msd, .int mrt, .int mps, .int mqt, .int mmd, .ref opa, .ref opS, .ref opR, .ref opG, .ref opP, .ref opQ, .ref okp, .ref okS, .ref okR, .ref okP, .ref okQ, .ref oli])), (obd, .inl (cI, 64, .inl bd)), (opa, .inl (cI, 9664, .inl pa)), (opS, .inl (cI, 151, .inl pS)), (opR, .inl (cI, 151, .inl pR)), (opG, .inl (cI, 151, .inl pG)), (opP, .inl (cI, 151, .inl pP)), (opQ, .inl (cI, 151, .inl pQ)), (okp, .inl (cI, 256, .inl kp)), (okS, .inl (cI, 4, .inl kS)), (okR, .inl (cI, 4, .inl kR)), (okP, .inl (cI, 4, .inl kP)), (okQ, .inl (cI, 4, .inl kQ)), (oli, .inl (cI, 1320, .inl li))]) ⟨hx, hb, hml, hown, hts⟩ (ct_M_ahead l dC dI cI cL cR msd hy10001) mm_219 mm_220 mm_218 mm_211 hd_M_ahead (by decide) qq_00 hP hD hK hS hA hT hN [] [0, 1, 2, 3, 4, 5, 6, 7, 8, 9, 10, 11, 12, 13] [0, 1, 2, 3, 4, 5, 6, 7, 8, 9, 10, 11, 12, 13] rfl rfl rfl (by decide) rfl hl.1 rfl (Nat.le_of_ble_eq_true rfl) dd_M_pawnGoes_59 (fun H locs hP hD hS => ?_)
    refine W.eq (g2 := F0 m 62 ls [.int r10001, .int 8, .int a1]) rfl ?_
    refine lv_imul hx hb dd_M_pawnGoes_62 ?_
    refine lv_iadd hx hb dd_M_pawnGoes_63 ?_
    refine lv_topi (fun v10002 ev10002 => ?_)
    replace hf := qq_lt ev10002 hf
    refine lv_istore (lv' := [(6, .int v10002), (5, .int s0), (0, .ref oM), (1, .int a1), (2, .int a2)]) hx hb dd_M_pawnGoes_64 hl (by decide) rfl (fun ls hl => ?_)
    refine lv_iload_n hx hb dd_M_pawnGoes_66 rfl (lv_at hl 4 rfl) ?_
    refine lv_iload hx hb dd_M_pawnGoes_67 (lv_at hl 0 rfl) ?_
    refine lv_icmp_ne (tgt := 85) hx hb dd_M_pawnGoes_69 (by decide) (fun hc => ?_) (fun hc => ?_)
    · replace hf := qq_f hc hf
      exact hJ85 s0 v10002 _ _ _ (lv_sub hl [2, 3, 4, 1, 0] rfl) hP hD hS hf
    · replace hf := qq_t hc hf
      refine lv_aload_n hx hb dd_M_pawnGoes_72 rfl (lv_at hl 2 rfl) ?_
      refine va_get (D := (dC, dI)) (ci := 5) (v := .ref obd) (C := RR_M) (T := FF_M) (N := 20) hx hb hts uu_M hown hK hP 0 rfl rfl 2 (by decide) (hts _ mm_209) (fun _ h9 => h9) rfl dd_M_pawnGoes_73 ?_
      refine lv_iload_n hx hb dd_M_pawnGoes_76 rfl (lv_at hl 4 rfl) ?_
      obtain ⟨hi10003, hf⟩ := qq_ckE hf
      refine va_iald (D := (dC, dI)) (f := bd) (n := 64) (cA := cI) hx hb hK hP 1 0 rfl rfl (qq_inE hi10003) dd_M_pawnGoes_77 ?_
      refine lv_if_ne (tgt := 85) hx hb dd_M_pawnGoes_78 (by decide) (fun hc => ?_) (fun hc => ?_)
      · replace hf := qq_f hc hf
        exact hJ85 s0 v10002 _ _ _ (lv_sub hl [2, 3, 4, 1, 0] rfl) hP hD hS hf
      · replace hf := qq_t hc hf
        refine lv_iconst (v := 1) hx hb dd_M_pawnGoes_81 (by decide) ?_
        refine lv_goto (tgt := 86) hx hb dd_M_pawnGoes_82 (by decide) ?_
        exact hJ86 s0 v10002 1 _ _ _ (lv_sub hl [2, 3, 4, 1, 0] rfl) hP hD hS hf
  have hJ13 : ∀ (s0 : Int32) (H : Heap) (locs : List Loc) (ls : Array Slot), lv_has ls 9 [(0, .ref oM), (1, .int a1), (2, .int a2), (3, .int a3)] → va_P (dC, dI) classes [(oM, .inr (5, [.int mth, .int mpl, .ref obd, .int msd, .int mrt, .int mps, .int mqt, .int mmd, .ref opa, .ref opS, .ref opR, .ref opG, .ref opP, .ref opQ, .ref okp, .ref okS, .ref okR, .ref okP, .ref okQ, .ref oli])), (obd, .inl (cI, 64, .inl bd)), (opa, .inl (cI, 9664, .inl pa)), (opS, .inl (cI, 151, .inl pS)), (opR, .inl (cI, 151, .inl pR)), (opG, .inl (cI, 151, .inl pG)), (opP, .inl (cI, 151, .inl pP)), (opQ, .inl (cI, 151, .inl pQ)), (okp, .inl (cI, 256, .inl kp)), (okS, .inl (cI, 4, .inl kS)), (okR, .inl (cI, 4, .inl kR)), (okP, .inl (cI, 4, .inl kP)), (okQ, .inl (cI, 4, .inl kQ)), (oli, .inl (cI, 1320, .inl li))] H → va_D A [(oM, .inr (5, [.int mth, .int mpl, .ref obd, .int msd, .int mrt, .int mps, .int mqt, .int mmd, .ref opa, .ref opS, .ref opR, .ref opG, .ref opP, .ref opQ, .ref okp, .ref okS, .ref okR, .ref okP, .ref okQ, .ref oli])), (obd, .inl (cI, 64, .inl bd)), (opa, .inl (cI, 9664, .inl pa)), (opS, .inl (cI, 151, .inl pS)), (opR, .inl (cI, 151, .inl pR)), (opG, .inl (cI, 151, .inl pG)), (opP, .inl (cI, 151, .inl pP)), (opQ, .inl (cI, 151, .inl pQ)), (okp, .inl (cI, 256, .inl kp)), (okS, .inl (cI, 4, .inl kS)), (okR, .inl (cI, 4, .inl kR)), (okP, .inl (cI, 4, .inl kP)), (okQ, .inl (cI, 4, .inl kQ)), (oli, .inl (cI, 1320, .inl li))] → va_S A s.heap H locs → bk_M_pawnGoes_13 msd mps bd a1 a2 a3 s0 = some rr → W p l e rm_M_pawnGoes s m ([.ref oM, .int a1, .int a2, .int a3] : List Value).toArray below meth c H locs 0 0 Q (F0 m 13 ls [.int s0]) := by
    intro s0 H locs ls hl hP hD hS hf
    rw [bk_M_pawnGoes_13] at hf
    refine lv_istore (lv' := [(4, .int s0), (0, .ref oM), (1, .int a1), (2, .int a2), (3, .int a3)]) hx hb dd_M_pawnGoes_13 hl (by decide) rfl (fun ls hl => ?_)
    refine lv_iload_n hx hb dd_M_pawnGoes_15 rfl (lv_at hl 3 rfl) ?_
    refine lv_bipush (v := 8) hx hb dd_M_pawnGoes_16 (by decide) ?_
    refine lv_idiv hx hb dd_M_pawnGoes_18 (by decide) ?_
    refine lv_iload hx hb dd_M_pawnGoes_19 (lv_at hl 0 rfl) ?_
    refine lv_icmp_ne (tgt := 41) hx hb dd_M_pawnGoes_21 (by decide) (fun hc => ?_) (fun hc => ?_)
    · replace hf := qq_f hc hf
      refine lv_iload_n hx hb dd_M_pawnGoes_41 rfl (lv_at hl 4 rfl) ?_
      refine lv_if_ne (tgt := 49) hx hb dd_M_pawnGoes_42 (by decide) (fun hc => ?_) (fun hc => ?_)
      · replace hf := qq_f hc hf
        refine lv_iconst (v := 0) hx hb dd_M_pawnGoes_49 (by decide) ?_
        exact hJ50 0 _ _ _ (lv_sub hl [1, 2, 3] rfl) hP hD hS hf
      · replace hf := qq_t hc hf
        refine lv_iconst (v := 1) hx hb dd_M_pawnGoes_45 (by decide) ?_
        refine lv_goto (tgt := 50) hx hb dd_M_pawnGoes_46 (by decide) ?_
        exact hJ50 1 _ _ _ (lv_sub hl [1, 2, 3] rfl) hP hD hS hf
    · replace hf := qq_t hc hf
      refine lv_iload_n hx hb dd_M_pawnGoes_24 rfl (lv_at hl 4 rfl) ?_
      refine lv_iconst (v := 2) hx hb dd_M_pawnGoes_25 (by decide) ?_
      refine lv_iconst (v := 5) hx hb dd_M_pawnGoes_26 (by decide) ?_
      obtain ⟨r11001, hy11001, hf⟩ := qq_bd hf
      refine qq_S (As := [.int a3, .int 2, .int 5]) (rest := []) (wr := [(oM, .inr (5, [.int mth, .int mpl, .ref obd, .int msd, .int mrt, .int mps, .int mqt, .int mmd, .ref opa, .ref opS, .ref opR, .ref opG, .ref opP, .ref opQ, .ref okp, .ref okS, .ref okR, .ref okP, .ref okQ, .ref oli])), (obd, .inl (cI, 64, .inl bd)), (opa, .inl (cI, 9664, .inl pa)), (opS, .inl (cI, 151, .inl pS)), (opR, .inl (cI, 151, .inl pR)), (opG, .inl (cI, 151, .inl pG)), (opP, .inl (cI, 151, .inl pP)), (opQ, .inl (cI, 151, .inl pQ)), (okp, .inl (cI, 256, .inl kp)), (okS, .inl (cI, 4, .inl kS)), (okR, .inl (cI, 4, .inl kR)), (okP, .inl (cI, 4, .inl kP)), (okQ, .inl (cI, 4, .inl kQ)), (oli, .inl (cI, 1320, .inl li))]) (wf := [(oM, .inr (5, [.int mth, .int mpl, .ref obd, .int msd, .int mrt, .int mps, .int mqt, .int mmd, .ref opa, .ref opS, .ref opR, .ref opG, .ref opP, .ref opQ, .ref okp, .ref okS, .ref okR, .ref okP, .ref okQ, .ref oli])), (obd, .inl (cI, 64, .inl bd)), (opa, .inl (cI, 9664, .inl pa)), (opS, .inl (cI, 151, .inl pS)), (opR, .inl (cI, 151, .inl pR)), (opG, .inl (cI, 151, .inl pG)), (opP, .inl (cI, 151, .inl pP)), (opQ, .inl (cI, 151, .inl pQ)), (okp, .inl (cI, 256, .inl kp)), (okS, .inl (cI, 4, .inl kS)), (okR, .inl (cI, 4, .inl kR)), (okP, .inl (cI, 4, .inl kP)), (okQ, .inl (cI, 4, .inl kQ)), (oli, .inl (cI, 1320, .inl li))]) ⟨hx, hb, hml, hown, hts⟩ (ct_M_outside l dC dI cI cL cR a3 2 5 hy11001) mm_238 mm_239 mm_237 mm_211 hd_M_outside (by decide) qq_00 hP hD hK hS hA hT hN [] [0, 1, 2, 3, 4, 5, 6, 7, 8, 9, 10, 11, 12, 13] [0, 1, 2, 3, 4, 5, 6, 7, 8, 9, 10, 11, 12, 13] rfl rfl rfl (by decide) rfl hl.1 rfl (Nat.le_of_ble_eq_true rfl) dd_M_pawnGoes_27 (fun H locs hP hD hS => ?_)
      refine W.eq (g2 := F0 m 30 ls [.int r11001]) rfl ?_
      refine lv_if_ne (tgt := 37) hx hb dd_M_pawnGoes_30 (by decide) (fun hc => ?_) (fun hc => ?_)
      · replace hf := qq_f hc hf
        refine lv_iconst (v := 0) hx hb dd_M_pawnGoes_37 (by decide) ?_
        refine lv_goto (tgt := 50) hx hb dd_M_pawnGoes_38 (by decide) ?_
        exact hJ50 0 _ _ _ (lv_sub hl [1, 2, 3] rfl) hP hD hS hf
      · replace hf := qq_t hc hf
        refine lv_iconst (v := 1) hx hb dd_M_pawnGoes_33 (by decide) ?_
        refine lv_goto (tgt := 50) hx hb dd_M_pawnGoes_34 (by decide) ?_
        exact hJ50 1 _ _ _ (lv_sub hl [1, 2, 3] rfl) hP hD hS hf
  rw [fn_M_pawnGoes] at hf
  refine lv_aload_n hx hb dd_M_pawnGoes_0 rfl (lv_at hl 0 rfl) ?_
  refine va_get (D := (dC, dI)) (ci := 5) (v := .int msd) (C := RR_M) (T := FF_M) (N := 20) hx hb hts uu_M hown hK hP 0 rfl rfl 3 (by decide) (hts _ mm_228) (fun _ h9 => h9) rfl dd_M_pawnGoes_1 ?_
  refine lv_if_ne (tgt := 12) hx hb dd_M_pawnGoes_4 (by decide) (fun hc => ?_) (fun hc => ?_)
  · replace hf := qq_f hc hf
    refine lv_iconst (v := 0) hx hb dd_M_pawnGoes_12 (by decide) ?_
    exact hJ13 0 _ _ _ (lv_sub hl [0, 1, 2, 3] rfl) hP hD hS hf
  · replace hf := qq_t hc hf
    refine lv_bipush (v := 7) hx hb dd_M_pawnGoes_7 (by decide) ?_
    refine lv_goto (tgt := 13) hx hb dd_M_pawnGoes_9 (by decide) ?_
    exact hJ13 7 _ _ _ (lv_sub hl [0, 1, 2, 3] rfl) hP hD hS hf
theorem dd_M_kingOf_0 : decode bb_M_kingOf 0 = .ok (.iconst (-1), 1) := by decide +kernel
theorem dd_M_kingOf_1 : decode bb_M_kingOf 1 = .ok (.istore_n 2, 1) := by decide +kernel
theorem dd_M_kingOf_2 : decode bb_M_kingOf 2 = .ok (.iconst 0, 1) := by decide +kernel
theorem dd_M_kingOf_3 : decode bb_M_kingOf 3 = .ok (.istore_n 3, 1) := by decide +kernel
theorem dd_M_kingOf_4 : decode bb_M_kingOf 4 = .ok (.iload_n 3, 1) := by decide +kernel
theorem dd_M_kingOf_5 : decode bb_M_kingOf 5 = .ok (.bipush 64, 2) := by decide +kernel
theorem dd_M_kingOf_7 : decode bb_M_kingOf 7 = .ok (.if_icmp .ge 31, 3) := by decide +kernel
theorem dd_M_kingOf_10 : decode bb_M_kingOf 10 = .ok (.aload_n 0, 1) := by decide +kernel
theorem dd_M_kingOf_11 : decode bb_M_kingOf 11 = .ok (.getfield 7, 3) := by decide +kernel
theorem dd_M_kingOf_14 : decode bb_M_kingOf 14 = .ok (.iload_n 3, 1) := by decide +kernel
theorem dd_M_kingOf_15 : decode bb_M_kingOf 15 = .ok (.iaload, 1) := by decide +kernel
theorem dd_M_kingOf_16 : decode bb_M_kingOf 16 = .ok (.bipush 6, 2) := by decide +kernel
theorem dd_M_kingOf_18 : decode bb_M_kingOf 18 = .ok (.bipush 6, 2) := by decide +kernel
theorem dd_M_kingOf_20 : decode bb_M_kingOf 20 = .ok (.iload_n 1, 1) := by decide +kernel
theorem dd_M_kingOf_21 : decode bb_M_kingOf 21 = .ok (.imul, 1) := by decide +kernel
theorem dd_M_kingOf_22 : decode bb_M_kingOf 22 = .ok (.iadd, 1) := by decide +kernel
theorem dd_M_kingOf_23 : decode bb_M_kingOf 23 = .ok (.if_icmp .ne 7, 3) := by decide +kernel
theorem dd_M_kingOf_26 : decode bb_M_kingOf 26 = .ok (.iload_n 3, 1) := by decide +kernel
theorem dd_M_kingOf_27 : decode bb_M_kingOf 27 = .ok (.goto 4, 3) := by decide +kernel
theorem dd_M_kingOf_30 : decode bb_M_kingOf 30 = .ok (.iload_n 2, 1) := by decide +kernel
theorem dd_M_kingOf_31 : decode bb_M_kingOf 31 = .ok (.istore_n 2, 1) := by decide +kernel
theorem dd_M_kingOf_32 : decode bb_M_kingOf 32 = .ok (.iinc 3 1, 3) := by decide +kernel
theorem dd_M_kingOf_35 : decode bb_M_kingOf 35 = .ok (.goto (-31), 3) := by decide +kernel
theorem dd_M_kingOf_38 : decode bb_M_kingOf 38 = .ok (.iload_n 2, 1) := by decide +kernel
theorem dd_M_kingOf_39 : decode bb_M_kingOf 39 = .ok (.ireturn, 1) := by decide +kernel
abbrev ty_M_kingOf : Type := Int32
noncomputable def bk_M_kingOf_31 (bd : Nat → Int32) (a1 : Int32) (k4 : Int32 → Int32 → Option ty_M_kingOf) (x3 : Int32) (s0 : Int32) : Option ty_M_kingOf := qq_let (x3 + 1) fun v1001 => k4 s0 v1001
noncomputable def lo_M_kingOf_4 (bd : Nat → Int32) (a1 : Int32) : Nat → Int32 → Int32 → Option ty_M_kingOf
  | 0, _, _ => none
  | n + 1, x2, x3 => if 64 ≤ x3 then (some x2) else (qq_ck (qq_in x3 64) <| if (bd x3.toNatClampNeg) = (6 + (6 * a1)) then (bk_M_kingOf_31 bd a1 (lo_M_kingOf_4 bd a1 n) x3 x3) else (bk_M_kingOf_31 bd a1 (lo_M_kingOf_4 bd a1 n) x3 x2))
theorem lo_M_kingOf_4_z (bd : Nat → Int32) (a1 : Int32) (x2 : Int32) (x3 : Int32) : lo_M_kingOf_4 bd a1 0 x2 x3 = none := rfl
theorem lo_M_kingOf_4_s (bd : Nat → Int32) (a1 : Int32) (x2 : Int32) (x3 : Int32) (n : Nat) : lo_M_kingOf_4 bd a1 (n + 1) x2 x3 = (if 64 ≤ x3 then (some x2) else (qq_ck (qq_in x3 64) <| if (bd x3.toNatClampNeg) = (6 + (6 * a1)) then (bk_M_kingOf_31 bd a1 (lo_M_kingOf_4 bd a1 n) x3 x3) else (bk_M_kingOf_31 bd a1 (lo_M_kingOf_4 bd a1 n) x3 x2))) := rfl
noncomputable def fn_M_kingOf (bd : Nat → Int32) (a1 : Int32) : Option ty_M_kingOf := lo_M_kingOf_4 bd a1 qq_FU (-1) 0
abbrev rm_M_kingOf : Room := { frames := 0, cells := 0, slots := 0, locals := 0 }
set_option maxHeartbeats 4000000 in
set_option maxRecDepth 100000 in
theorem ct_M_kingOf (l : Launch) (dC : Nat → ClassId) (dI : Nat → Nat → Nat) (cI cL cR : ClassId) (oM obd opa opS opR opG opP opQ okp okS okR okP okQ oli : Nat) (mth : Int32) (mpl : Int32) (msd : Int32) (mrt : Int32) (mps : Int32) (mqt : Int32) (mmd : Int32) (bd : Nat → Int32) (pa : Nat → Int32) (pS : Nat → Int32) (pR : Nat → Int32) (pG : Nat → Int32) (pP : Nat → Int32) (pQ : Nat → Int32) (kp : Nat → Int32) (kS : Nat → Int32) (kR : Nat → Int32) (kP : Nat → Int32) (kQ : Nat → Int32) (li : Nat → Int32) (a1 : Int32) {rr : Int32} (hf : fn_M_kingOf bd a1 = some rr) : qq_det l yy_M_kingOf (ww_of yy_M_kingOf bb_M_kingOf 4 (some .int)) rm_M_kingOf (dC, dI) (qq_ty cI cL cR) [.ref oM, .int a1] [(oM, .inr (5, [.int mth, .int mpl, .ref obd, .int msd, .int mrt, .int mps, .int mqt, .int mmd, .ref opa, .ref opS, .ref opR, .ref opG, .ref opP, .ref opQ, .ref okp, .ref okS, .ref okR, .ref okP, .ref okQ, .ref oli])), (obd, .inl (cI, 64, .inl bd)), (opa, .inl (cI, 9664, .inl pa)), (opS, .inl (cI, 151, .inl pS)), (opR, .inl (cI, 151, .inl pR)), (opG, .inl (cI, 151, .inl pG)), (opP, .inl (cI, 151, .inl pP)), (opQ, .inl (cI, 151, .inl pQ)), (okp, .inl (cI, 256, .inl kp)), (okS, .inl (cI, 4, .inl kS)), (okR, .inl (cI, 4, .inl kR)), (okP, .inl (cI, 4, .inl kP)), (okQ, .inl (cI, 4, .inl kQ)), (oli, .inl (cI, 1320, .inl li))] (some (.int rr)) [(oM, .inr (5, [.int mth, .int mpl, .ref obd, .int msd, .int mrt, .int mps, .int mqt, .int mmd, .ref opa, .ref opS, .ref opR, .ref opG, .ref opP, .ref opQ, .ref okp, .ref okS, .ref okR, .ref okP, .ref okQ, .ref oli])), (obd, .inl (cI, 64, .inl bd)), (opa, .inl (cI, 9664, .inl pa)), (opS, .inl (cI, 151, .inl pS)), (opR, .inl (cI, 151, .inl pR)), (opG, .inl (cI, 151, .inl pG)), (opP, .inl (cI, 151, .inl pP)), (opQ, .inl (cI, 151, .inl pQ)), (okp, .inl (cI, 256, .inl kp)), (okS, .inl (cI, 4, .inl kS)), (okR, .inl (cI, 4, .inl kR)), (okP, .inl (cI, 4, .inl kP)), (okQ, .inl (cI, 4, .inl kQ)), (oli, .inl (cI, 1320, .inl li))] := by
  refine qq_of (own := RR_M) (by decide) rfl (Nat.le_of_ble_eq_true rfl) ?_
  intro p e s m below meth c A Q ls hx hb hml hr hlocks hown hts hK hA hT hN hP hD hS hl hQ
  have hl : lv_has ls 4 [(0, .ref oM), (1, .int a1)] := hl
  have hL4 : ∀ (n4 : Nat) (x2 : Int32) (x3 : Int32) (H : Heap) (locs : List Loc) (ls : Array Slot), lv_has ls 4 [(0, .ref oM), (1, .int a1), (2, .int x2), (3, .int x3)] → va_P (dC, dI) classes [(oM, .inr (5, [.int mth, .int mpl, .ref obd, .int msd, .int mrt, .int mps, .int mqt, .int mmd, .ref opa, .ref opS, .ref opR, .ref opG, .ref opP, .ref opQ, .ref okp, .ref okS, .ref okR, .ref okP, .ref okQ, .ref oli])), (obd, .inl (cI, 64, .inl bd)), (opa, .inl (cI, 9664, .inl pa)), (opS, .inl (cI, 151, .inl pS)), (opR, .inl (cI, 151, .inl pR)), (opG, .inl (cI, 151, .inl pG)), (opP, .inl (cI, 151, .inl pP)), (opQ, .inl (cI, 151, .inl pQ)), (okp, .inl (cI, 256, .inl kp)), (okS, .inl (cI, 4, .inl kS)), (okR, .inl (cI, 4, .inl kR)), (okP, .inl (cI, 4, .inl kP)), (okQ, .inl (cI, 4, .inl kQ)), (oli, .inl (cI, 1320, .inl li))] H → va_D A [(oM, .inr (5, [.int mth, .int mpl, .ref obd, .int msd, .int mrt, .int mps, .int mqt, .int mmd, .ref opa, .ref opS, .ref opR, .ref opG, .ref opP, .ref opQ, .ref okp, .ref okS, .ref okR, .ref okP, .ref okQ, .ref oli])), (obd, .inl (cI, 64, .inl bd)), (opa, .inl (cI, 9664, .inl pa)), (opS, .inl (cI, 151, .inl pS)), (opR, .inl (cI, 151, .inl pR)), (opG, .inl (cI, 151, .inl pG)), (opP, .inl (cI, 151, .inl pP)), (opQ, .inl (cI, 151, .inl pQ)), (okp, .inl (cI, 256, .inl kp)), (okS, .inl (cI, 4, .inl kS)), (okR, .inl (cI, 4, .inl kR)), (okP, .inl (cI, 4, .inl kP)), (okQ, .inl (cI, 4, .inl kQ)), (oli, .inl (cI, 1320, .inl li))] → va_S A s.heap H locs → lo_M_kingOf_4 bd a1 n4 x2 x3 = some rr → W p l e rm_M_kingOf s m ([.ref oM, .int a1] : List Value).toArray below meth c H locs 0 0 Q (F0 m 4 ls []) := by
    intro n4
    induction n4 with
    | zero => exact fun x2 x3 H locs ls hl hP hD hS hf => absurd hf (by rw [lo_M_kingOf_4_z]; exact fun h => by cases h)
    | succ n4 ih4 =>
      have hJ31 : ∀ (x3 : Int32) (s0 : Int32) (H : Heap) (locs : List Loc) (ls : Array Slot), lv_has ls 4 [(0, .ref oM), (1, .int a1), (3, .int x3)] → va_P (dC, dI) classes [(oM, .inr (5, [.int mth, .int mpl, .ref obd, .int msd, .int mrt, .int mps, .int mqt, .int mmd, .ref opa, .ref opS, .ref opR, .ref opG, .ref opP, .ref opQ, .ref okp, .ref okS, .ref okR, .ref okP, .ref okQ, .ref oli])), (obd, .inl (cI, 64, .inl bd)), (opa, .inl (cI, 9664, .inl pa)), (opS, .inl (cI, 151, .inl pS)), (opR, .inl (cI, 151, .inl pR)), (opG, .inl (cI, 151, .inl pG)), (opP, .inl (cI, 151, .inl pP)), (opQ, .inl (cI, 151, .inl pQ)), (okp, .inl (cI, 256, .inl kp)), (okS, .inl (cI, 4, .inl kS)), (okR, .inl (cI, 4, .inl kR)), (okP, .inl (cI, 4, .inl kP)), (okQ, .inl (cI, 4, .inl kQ)), (oli, .inl (cI, 1320, .inl li))] H → va_D A [(oM, .inr (5, [.int mth, .int mpl, .ref obd, .int msd, .int mrt, .int mps, .int mqt, .int mmd, .ref opa, .ref opS, .ref opR, .ref opG, .ref opP, .ref opQ, .ref okp, .ref okS, .ref okR, .ref okP, .ref okQ, .ref oli])), (obd, .inl (cI, 64, .inl bd)), (opa, .inl (cI, 9664, .inl pa)), (opS, .inl (cI, 151, .inl pS)), (opR, .inl (cI, 151, .inl pR)), (opG, .inl (cI, 151, .inl pG)), (opP, .inl (cI, 151, .inl pP)), (opQ, .inl (cI, 151, .inl pQ)), (okp, .inl (cI, 256, .inl kp)), (okS, .inl (cI, 4, .inl kS)), (okR, .inl (cI, 4, .inl kR)), (okP, .inl (cI, 4, .inl kP)), (okQ, .inl (cI, 4, .inl kQ)), (oli, .inl (cI, 1320, .inl li))] → va_S A s.heap H locs → bk_M_kingOf_31 bd a1 (lo_M_kingOf_4 bd a1 n4) x3 s0 = some rr → W p l e rm_M_kingOf s m ([.ref oM, .int a1] : List Value).toArray below meth c H locs 0 0 Q (F0 m 31 ls [.int s0]) := by
        intro x3 s0 H locs ls hl hP hD hS hf
        rw [bk_M_kingOf_31] at hf
        refine lv_istore_n (lv' := [(2, .int s0), (0, .ref oM), (1, .int a1), (3, .int x3)]) hx hb dd_M_kingOf_31 rfl hl (by decide) rfl (fun ls hl => ?_)
        obtain ⟨v1001, ev1001⟩ : ∃ z, z = x3 + 1 := ⟨_, rfl⟩
        replace hf := qq_lt ev1001 hf
        refine lv_iinc (k := 3) (v := v1001) (lv' := [(3, .int v1001), (2, .int s0), (0, .ref oM), (1, .int a1)]) hx hb dd_M_kingOf_32 hl rfl (by rw [ev1001]; exact congrArg _ (by decide)) (by decide) rfl (fun ls hl => ?_)
        refine lv_goto (tgt := 4) hx hb dd_M_kingOf_35 (by decide) ?_
        exact ih4 s0 v1001 _ _ _ (lv_sub hl [2, 3, 1, 0] rfl) hP hD hS hf
      intro x2 x3 H locs ls hl hP hD hS hf
      rw [lo_M_kingOf_4_s] at hf
      refine lv_iload_n hx hb dd_M_kingOf_4 rfl (lv_at hl 3 rfl) ?_
      refine lv_bipush (v := 64) hx hb dd_M_kingOf_5 (by decide) ?_
      refine lv_icmp_ge (tgt := 38) hx hb dd_M_kingOf_7 (by decide) (fun hc => ?_) (fun hc => ?_)
      · replace hf := qq_t hc hf
        refine lv_iload_n hx hb dd_M_kingOf_38 rfl (lv_at hl 2 rfl) ?_
        cases hf
        exact qq_iret hx hb hr hlocks hQ hP hD hK hS dd_M_kingOf_39
      · replace hf := qq_f hc hf
        refine lv_aload_n hx hb dd_M_kingOf_10 rfl (lv_at hl 0 rfl) ?_
        refine va_get (D := (dC, dI)) (ci := 5) (v := .ref obd) (C := RR_M) (T := FF_M) (N := 20) hx hb hts uu_M hown hK hP 0 rfl rfl 2 (by decide) (hts _ mm_209) (fun _ h9 => h9) rfl dd_M_kingOf_11 ?_
        refine lv_iload_n hx hb dd_M_kingOf_14 rfl (lv_at hl 3 rfl) ?_
        obtain ⟨hi2001, hf⟩ := qq_ckE hf
        refine va_iald (D := (dC, dI)) (f := bd) (n := 64) (cA := cI) hx hb hK hP 1 0 rfl rfl (qq_inE hi2001) dd_M_kingOf_15 ?_
        refine lv_bipush (v := 6) hx hb dd_M_kingOf_16 (by decide) ?_
        refine lv_bipush (v := 6) hx hb dd_M_kingOf_18 (by decide) ?_
        refine lv_iload_n hx hb dd_M_kingOf_20 rfl (lv_at hl 1 rfl) ?_
        refine lv_imul hx hb dd_M_kingOf_21 ?_
        refine lv_iadd hx hb dd_M_kingOf_22 ?_
        refine lv_icmp_ne (tgt := 30) hx hb dd_M_kingOf_23 (by decide) (fun hc => ?_) (fun hc => ?_)
        · replace hf := qq_f hc hf
          refine lv_iload_n hx hb dd_M_kingOf_30 rfl (lv_at hl 2 rfl) ?_
          exact hJ31 x3 x2 _ _ _ (lv_sub hl [0, 1, 3] rfl) hP hD hS hf
        · replace hf := qq_t hc hf
          refine lv_iload_n hx hb dd_M_kingOf_26 rfl (lv_at hl 3 rfl) ?_
          refine lv_goto (tgt := 31) hx hb dd_M_kingOf_27 (by decide) ?_
          exact hJ31 x3 x3 _ _ _ (lv_sub hl [0, 1, 3] rfl) hP hD hS hf
  rw [fn_M_kingOf] at hf
  refine lv_iconst (v := (-1)) hx hb dd_M_kingOf_0 (by decide) ?_
  refine lv_istore_n (lv' := [(2, .int (-1)), (0, .ref oM), (1, .int a1)]) hx hb dd_M_kingOf_1 rfl hl (by decide) rfl (fun ls hl => ?_)
  refine lv_iconst (v := 0) hx hb dd_M_kingOf_2 (by decide) ?_
  refine lv_istore_n (lv' := [(3, .int 0), (2, .int (-1)), (0, .ref oM), (1, .int a1)]) hx hb dd_M_kingOf_3 rfl hl (by decide) rfl (fun ls hl => ?_)
  exact hL4 qq_FU (-1) 0 _ _ _ (lv_sub hl [2, 3, 1, 0] rfl) hP hD hS hf
theorem dd_M_isHit_0 : decode bb_M_isHit 0 = .ok (.iconst 0, 1) := by decide +kernel
theorem dd_M_isHit_1 : decode bb_M_isHit 1 = .ok (.istore_n 3, 1) := by decide +kernel
theorem dd_M_isHit_2 : decode bb_M_isHit 2 = .ok (.iconst 0, 1) := by decide +kernel
theorem dd_M_isHit_3 : decode bb_M_isHit 3 = .ok (.istore 4, 2) := by decide +kernel
theorem dd_M_isHit_5 : decode bb_M_isHit 5 = .ok (.iload 4, 2) := by decide +kernel
theorem dd_M_isHit_7 : decode bb_M_isHit 7 = .ok (.bipush 64, 2) := by decide +kernel
theorem dd_M_isHit_9 : decode bb_M_isHit 9 = .ok (.if_icmp .ge 43, 3) := by decide +kernel
theorem dd_M_isHit_12 : decode bb_M_isHit 12 = .ok (.iload_n 3, 1) := by decide +kernel
theorem dd_M_isHit_13 : decode bb_M_isHit 13 = .ok (.ifCond .ne 27, 3) := by decide +kernel
theorem dd_M_isHit_16 : decode bb_M_isHit 16 = .ok (.aload_n 0, 1) := by decide +kernel
theorem dd_M_isHit_17 : decode bb_M_isHit 17 = .ok (.getfield 7, 3) := by decide +kernel
theorem dd_M_isHit_20 : decode bb_M_isHit 20 = .ok (.iload 4, 2) := by decide +kernel
theorem dd_M_isHit_22 : decode bb_M_isHit 22 = .ok (.iaload, 1) := by decide +kernel
theorem dd_M_isHit_23 : decode bb_M_isHit 23 = .ok (.iload_n 1, 1) := by decide +kernel
theorem dd_M_isHit_24 : decode bb_M_isHit 24 = .ok (.invokestatic 83, 3) := by decide +kernel
theorem dd_M_isHit_27 : decode bb_M_isHit 27 = .ok (.ifCond .eq 17, 3) := by decide +kernel
theorem dd_M_isHit_30 : decode bb_M_isHit 30 = .ok (.aload_n 0, 1) := by decide +kernel
theorem dd_M_isHit_31 : decode bb_M_isHit 31 = .ok (.iload 4, 2) := by decide +kernel
theorem dd_M_isHit_33 : decode bb_M_isHit 33 = .ok (.iload_n 2, 1) := by decide +kernel
theorem dd_M_isHit_34 : decode bb_M_isHit 34 = .ok (.invokevirtual 86, 3) := by decide +kernel
theorem dd_M_isHit_37 : decode bb_M_isHit 37 = .ok (.ifCond .eq 7, 3) := by decide +kernel
theorem dd_M_isHit_40 : decode bb_M_isHit 40 = .ok (.iconst 1, 1) := by decide +kernel
theorem dd_M_isHit_41 : decode bb_M_isHit 41 = .ok (.goto 4, 3) := by decide +kernel
theorem dd_M_isHit_44 : decode bb_M_isHit 44 = .ok (.iconst 0, 1) := by decide +kernel
theorem dd_M_isHit_45 : decode bb_M_isHit 45 = .ok (.istore_n 3, 1) := by decide +kernel
theorem dd_M_isHit_46 : decode bb_M_isHit 46 = .ok (.iinc 4 1, 3) := by decide +kernel
theorem dd_M_isHit_49 : decode bb_M_isHit 49 = .ok (.goto (-44), 3) := by decide +kernel
theorem dd_M_isHit_52 : decode bb_M_isHit 52 = .ok (.iload_n 3, 1) := by decide +kernel
theorem dd_M_isHit_53 : decode bb_M_isHit 53 = .ok (.ireturn, 1) := by decide +kernel
abbrev ty_M_isHit : Type := Int32
noncomputable def bk_M_isHit_45 (bd : Nat → Int32) (a1 : Int32) (a2 : Int32) (k5 : Int32 → Int32 → Option ty_M_isHit) (x4 : Int32) (s0 : Int32) : Option ty_M_isHit := qq_let (x4 + 1) fun v1001 => k5 s0 v1001
noncomputable def bk_M_isHit_44 (bd : Nat → Int32) (a1 : Int32) (a2 : Int32) (k5 : Int32 → Int32 → Option ty_M_isHit) (x4 : Int32) : Option ty_M_isHit := bk_M_isHit_45 bd a1 a2 k5 x4 0
noncomputable def bk_M_isHit_40 (bd : Nat → Int32) (a1 : Int32) (a2 : Int32) (k5 : Int32 → Int32 → Option ty_M_isHit) (x4 : Int32) : Option ty_M_isHit := bk_M_isHit_45 bd a1 a2 k5 x4 1
noncomputable def lo_M_isHit_5 (bd : Nat → Int32) (a1 : Int32) (a2 : Int32) : Nat → Int32 → Int32 → Option ty_M_isHit
  | 0, _, _ => none
  | n + 1, x3, x4 => if 64 ≤ x4 then (qq_ck (qq_b x3) <| some x3) else (if x3 = 0 then (qq_ck (qq_in x4 64) <| (fn_M_isOf (bd x4.toNatClampNeg) a1).bind fun r4002 => if r4002 = 0 then (bk_M_isHit_44 bd a1 a2 (lo_M_isHit_5 bd a1 a2 n) x4) else ((fn_M_reaches bd x4 a2).bind fun r4003 => if r4003 = 0 then (bk_M_isHit_44 bd a1 a2 (lo_M_isHit_5 bd a1 a2 n) x4) else (bk_M_isHit_40 bd a1 a2 (lo_M_isHit_5 bd a1 a2 n) x4))) else (bk_M_isHit_40 bd a1 a2 (lo_M_isHit_5 bd a1 a2 n) x4))
theorem lo_M_isHit_5_z (bd : Nat → Int32) (a1 : Int32) (a2 : Int32) (x3 : Int32) (x4 : Int32) : lo_M_isHit_5 bd a1 a2 0 x3 x4 = none := rfl
theorem lo_M_isHit_5_s (bd : Nat → Int32) (a1 : Int32) (a2 : Int32) (x3 : Int32) (x4 : Int32) (n : Nat) : lo_M_isHit_5 bd a1 a2 (n + 1) x3 x4 = (if 64 ≤ x4 then (qq_ck (qq_b x3) <| some x3) else (if x3 = 0 then (qq_ck (qq_in x4 64) <| (fn_M_isOf (bd x4.toNatClampNeg) a1).bind fun r4002 => if r4002 = 0 then (bk_M_isHit_44 bd a1 a2 (lo_M_isHit_5 bd a1 a2 n) x4) else ((fn_M_reaches bd x4 a2).bind fun r4003 => if r4003 = 0 then (bk_M_isHit_44 bd a1 a2 (lo_M_isHit_5 bd a1 a2 n) x4) else (bk_M_isHit_40 bd a1 a2 (lo_M_isHit_5 bd a1 a2 n) x4))) else (bk_M_isHit_40 bd a1 a2 (lo_M_isHit_5 bd a1 a2 n) x4))) := rfl
noncomputable def fn_M_isHit (bd : Nat → Int32) (a1 : Int32) (a2 : Int32) : Option ty_M_isHit := lo_M_isHit_5 bd a1 a2 qq_FU 0 0
abbrev rm_M_isHit : Room := { frames := 3, cells := 0, slots := 0, locals := 70 }
set_option maxHeartbeats 4000000 in
set_option maxRecDepth 100000 in
theorem ct_M_isHit (l : Launch) (dC : Nat → ClassId) (dI : Nat → Nat → Nat) (cI cL cR : ClassId) (oM obd opa opS opR opG opP opQ okp okS okR okP okQ oli : Nat) (mth : Int32) (mpl : Int32) (msd : Int32) (mrt : Int32) (mps : Int32) (mqt : Int32) (mmd : Int32) (bd : Nat → Int32) (pa : Nat → Int32) (pS : Nat → Int32) (pR : Nat → Int32) (pG : Nat → Int32) (pP : Nat → Int32) (pQ : Nat → Int32) (kp : Nat → Int32) (kS : Nat → Int32) (kR : Nat → Int32) (kP : Nat → Int32) (kQ : Nat → Int32) (li : Nat → Int32) (a1 : Int32) (a2 : Int32) {rr : Int32} (hf : fn_M_isHit bd a1 a2 = some rr) : qq_det l yy_M_isHit (ww_of yy_M_isHit bb_M_isHit 5 (some .boolean)) rm_M_isHit (dC, dI) (qq_ty cI cL cR) [.ref oM, .int a1, .int a2] [(oM, .inr (5, [.int mth, .int mpl, .ref obd, .int msd, .int mrt, .int mps, .int mqt, .int mmd, .ref opa, .ref opS, .ref opR, .ref opG, .ref opP, .ref opQ, .ref okp, .ref okS, .ref okR, .ref okP, .ref okQ, .ref oli])), (obd, .inl (cI, 64, .inl bd)), (opa, .inl (cI, 9664, .inl pa)), (opS, .inl (cI, 151, .inl pS)), (opR, .inl (cI, 151, .inl pR)), (opG, .inl (cI, 151, .inl pG)), (opP, .inl (cI, 151, .inl pP)), (opQ, .inl (cI, 151, .inl pQ)), (okp, .inl (cI, 256, .inl kp)), (okS, .inl (cI, 4, .inl kS)), (okR, .inl (cI, 4, .inl kR)), (okP, .inl (cI, 4, .inl kP)), (okQ, .inl (cI, 4, .inl kQ)), (oli, .inl (cI, 1320, .inl li))] (some (.int rr)) [(oM, .inr (5, [.int mth, .int mpl, .ref obd, .int msd, .int mrt, .int mps, .int mqt, .int mmd, .ref opa, .ref opS, .ref opR, .ref opG, .ref opP, .ref opQ, .ref okp, .ref okS, .ref okR, .ref okP, .ref okQ, .ref oli])), (obd, .inl (cI, 64, .inl bd)), (opa, .inl (cI, 9664, .inl pa)), (opS, .inl (cI, 151, .inl pS)), (opR, .inl (cI, 151, .inl pR)), (opG, .inl (cI, 151, .inl pG)), (opP, .inl (cI, 151, .inl pP)), (opQ, .inl (cI, 151, .inl pQ)), (okp, .inl (cI, 256, .inl kp)), (okS, .inl (cI, 4, .inl kS)), (okR, .inl (cI, 4, .inl kR)), (okP, .inl (cI, 4, .inl kP)), (okQ, .inl (cI, 4, .inl kQ)), (oli, .inl (cI, 1320, .inl li))] := by
  refine qq_of (own := RR_M) (by decide) rfl (Nat.le_of_ble_eq_true rfl) ?_
  intro p e s m below meth c A Q ls hx hb hml hr hlocks hown hts hK hA hT hN hP hD hS hl hQ
  have hl : lv_has ls 5 [(0, .ref oM), (1, .int a1), (2, .int a2)] := hl
  have hL5 : ∀ (n5 : Nat) (x3 : Int32) (x4 : Int32) (H : Heap) (locs : List Loc) (ls : Array Slot), lv_has ls 5 [(0, .ref oM), (1, .int a1), (2, .int a2), (3, .int x3), (4, .int x4)] → va_P (dC, dI) classes [(oM, .inr (5, [.int mth, .int mpl, .ref obd, .int msd, .int mrt, .int mps, .int mqt, .int mmd, .ref opa, .ref opS, .ref opR, .ref opG, .ref opP, .ref opQ, .ref okp, .ref okS, .ref okR, .ref okP, .ref okQ, .ref oli])), (obd, .inl (cI, 64, .inl bd)), (opa, .inl (cI, 9664, .inl pa)), (opS, .inl (cI, 151, .inl pS)), (opR, .inl (cI, 151, .inl pR)), (opG, .inl (cI, 151, .inl pG)), (opP, .inl (cI, 151, .inl pP)), (opQ, .inl (cI, 151, .inl pQ)), (okp, .inl (cI, 256, .inl kp)), (okS, .inl (cI, 4, .inl kS)), (okR, .inl (cI, 4, .inl kR)), (okP, .inl (cI, 4, .inl kP)), (okQ, .inl (cI, 4, .inl kQ)), (oli, .inl (cI, 1320, .inl li))] H → va_D A [(oM, .inr (5, [.int mth, .int mpl, .ref obd, .int msd, .int mrt, .int mps, .int mqt, .int mmd, .ref opa, .ref opS, .ref opR, .ref opG, .ref opP, .ref opQ, .ref okp, .ref okS, .ref okR, .ref okP, .ref okQ, .ref oli])), (obd, .inl (cI, 64, .inl bd)), (opa, .inl (cI, 9664, .inl pa)), (opS, .inl (cI, 151, .inl pS)), (opR, .inl (cI, 151, .inl pR)), (opG, .inl (cI, 151, .inl pG)), (opP, .inl (cI, 151, .inl pP)), (opQ, .inl (cI, 151, .inl pQ)), (okp, .inl (cI, 256, .inl kp)), (okS, .inl (cI, 4, .inl kS)), (okR, .inl (cI, 4, .inl kR)), (okP, .inl (cI, 4, .inl kP)), (okQ, .inl (cI, 4, .inl kQ)), (oli, .inl (cI, 1320, .inl li))] → va_S A s.heap H locs → lo_M_isHit_5 bd a1 a2 n5 x3 x4 = some rr → W p l e rm_M_isHit s m ([.ref oM, .int a1, .int a2] : List Value).toArray below meth c H locs 0 0 Q (F0 m 5 ls []) := by
    intro n5
    induction n5 with
    | zero => exact fun x3 x4 H locs ls hl hP hD hS hf => absurd hf (by rw [lo_M_isHit_5_z]; exact fun h => by cases h)
    | succ n5 ih5 =>
      have hJ45 : ∀ (x4 : Int32) (s0 : Int32) (H : Heap) (locs : List Loc) (ls : Array Slot), lv_has ls 5 [(0, .ref oM), (1, .int a1), (2, .int a2), (4, .int x4)] → va_P (dC, dI) classes [(oM, .inr (5, [.int mth, .int mpl, .ref obd, .int msd, .int mrt, .int mps, .int mqt, .int mmd, .ref opa, .ref opS, .ref opR, .ref opG, .ref opP, .ref opQ, .ref okp, .ref okS, .ref okR, .ref okP, .ref okQ, .ref oli])), (obd, .inl (cI, 64, .inl bd)), (opa, .inl (cI, 9664, .inl pa)), (opS, .inl (cI, 151, .inl pS)), (opR, .inl (cI, 151, .inl pR)), (opG, .inl (cI, 151, .inl pG)), (opP, .inl (cI, 151, .inl pP)), (opQ, .inl (cI, 151, .inl pQ)), (okp, .inl (cI, 256, .inl kp)), (okS, .inl (cI, 4, .inl kS)), (okR, .inl (cI, 4, .inl kR)), (okP, .inl (cI, 4, .inl kP)), (okQ, .inl (cI, 4, .inl kQ)), (oli, .inl (cI, 1320, .inl li))] H → va_D A [(oM, .inr (5, [.int mth, .int mpl, .ref obd, .int msd, .int mrt, .int mps, .int mqt, .int mmd, .ref opa, .ref opS, .ref opR, .ref opG, .ref opP, .ref opQ, .ref okp, .ref okS, .ref okR, .ref okP, .ref okQ, .ref oli])), (obd, .inl (cI, 64, .inl bd)), (opa, .inl (cI, 9664, .inl pa)), (opS, .inl (cI, 151, .inl pS)), (opR, .inl (cI, 151, .inl pR)), (opG, .inl (cI, 151, .inl pG)), (opP, .inl (cI, 151, .inl pP)), (opQ, .inl (cI, 151, .inl pQ)), (okp, .inl (cI, 256, .inl kp)), (okS, .inl (cI, 4, .inl kS)), (okR, .inl (cI, 4, .inl kR)), (okP, .inl (cI, 4, .inl kP)), (okQ, .inl (cI, 4, .inl kQ)), (oli, .inl (cI, 1320, .inl li))] → va_S A s.heap H locs → bk_M_isHit_45 bd a1 a2 (lo_M_isHit_5 bd a1 a2 n5) x4 s0 = some rr → W p l e rm_M_isHit s m ([.ref oM, .int a1, .int a2] : List Value).toArray below meth c H locs 0 0 Q (F0 m 45 ls [.int s0]) := by
        intro x4 s0 H locs ls hl hP hD hS hf
        rw [bk_M_isHit_45] at hf
        refine lv_istore_n (lv' := [(3, .int s0), (0, .ref oM), (1, .int a1), (2, .int a2), (4, .int x4)]) hx hb dd_M_isHit_45 rfl hl (by decide) rfl (fun ls hl => ?_)
        obtain ⟨v1001, ev1001⟩ : ∃ z, z = x4 + 1 := ⟨_, rfl⟩
        replace hf := qq_lt ev1001 hf
        refine lv_iinc (k := 4) (v := v1001) (lv' := [(4, .int v1001), (3, .int s0), (0, .ref oM), (1, .int a1), (2, .int a2)]) hx hb dd_M_isHit_46 hl rfl (by rw [ev1001]; exact congrArg _ (by decide)) (by decide) rfl (fun ls hl => ?_)
        refine lv_goto (tgt := 5) hx hb dd_M_isHit_49 (by decide) ?_
        exact ih5 s0 v1001 _ _ _ (lv_sub hl [2, 3, 4, 1, 0] rfl) hP hD hS hf
      have hJ44 : ∀ (x4 : Int32) (H : Heap) (locs : List Loc) (ls : Array Slot), lv_has ls 5 [(0, .ref oM), (1, .int a1), (2, .int a2), (4, .int x4)] → va_P (dC, dI) classes [(oM, .inr (5, [.int mth, .int mpl, .ref obd, .int msd, .int mrt, .int mps, .int mqt, .int mmd, .ref opa, .ref opS, .ref opR, .ref opG, .ref opP, .ref opQ, .ref okp, .ref okS, .ref okR, .ref okP, .ref okQ, .ref oli])), (obd, .inl (cI, 64, .inl bd)), (opa, .inl (cI, 9664, .inl pa)), (opS, .inl (cI, 151, .inl pS)), (opR, .inl (cI, 151, .inl pR)), (opG, .inl (cI, 151, .inl pG)), (opP, .inl (cI, 151, .inl pP)), (opQ, .inl (cI, 151, .inl pQ)), (okp, .inl (cI, 256, .inl kp)), (okS, .inl (cI, 4, .inl kS)), (okR, .inl (cI, 4, .inl kR)), (okP, .inl (cI, 4, .inl kP)), (okQ, .inl (cI, 4, .inl kQ)), (oli, .inl (cI, 1320, .inl li))] H → va_D A [(oM, .inr (5, [.int mth, .int mpl, .ref obd, .int msd, .int mrt, .int mps, .int mqt, .int mmd, .ref opa, .ref opS, .ref opR, .ref opG, .ref opP, .ref opQ, .ref okp, .ref okS, .ref okR, .ref okP, .ref okQ, .ref oli])), (obd, .inl (cI, 64, .inl bd)), (opa, .inl (cI, 9664, .inl pa)), (opS, .inl (cI, 151, .inl pS)), (opR, .inl (cI, 151, .inl pR)), (opG, .inl (cI, 151, .inl pG)), (opP, .inl (cI, 151, .inl pP)), (opQ, .inl (cI, 151, .inl pQ)), (okp, .inl (cI, 256, .inl kp)), (okS, .inl (cI, 4, .inl kS)), (okR, .inl (cI, 4, .inl kR)), (okP, .inl (cI, 4, .inl kP)), (okQ, .inl (cI, 4, .inl kQ)), (oli, .inl (cI, 1320, .inl li))] → va_S A s.heap H locs → bk_M_isHit_44 bd a1 a2 (lo_M_isHit_5 bd a1 a2 n5) x4 = some rr → W p l e rm_M_isHit s m ([.ref oM, .int a1, .int a2] : List Value).toArray below meth c H locs 0 0 Q (F0 m 44 ls []) := by
        intro x4 H locs ls hl hP hD hS hf
        rw [bk_M_isHit_44] at hf
        refine lv_iconst (v := 0) hx hb dd_M_isHit_44 (by decide) ?_
        exact hJ45 x4 0 _ _ _ (lv_sub hl [0, 1, 2, 3] rfl) hP hD hS hf
      have hJ40 : ∀ (x4 : Int32) (H : Heap) (locs : List Loc) (ls : Array Slot), lv_has ls 5 [(0, .ref oM), (1, .int a1), (2, .int a2), (4, .int x4)] → va_P (dC, dI) classes [(oM, .inr (5, [.int mth, .int mpl, .ref obd, .int msd, .int mrt, .int mps, .int mqt, .int mmd, .ref opa, .ref opS, .ref opR, .ref opG, .ref opP, .ref opQ, .ref okp, .ref okS, .ref okR, .ref okP, .ref okQ, .ref oli])), (obd, .inl (cI, 64, .inl bd)), (opa, .inl (cI, 9664, .inl pa)), (opS, .inl (cI, 151, .inl pS)), (opR, .inl (cI, 151, .inl pR)), (opG, .inl (cI, 151, .inl pG)), (opP, .inl (cI, 151, .inl pP)), (opQ, .inl (cI, 151, .inl pQ)), (okp, .inl (cI, 256, .inl kp)), (okS, .inl (cI, 4, .inl kS)), (okR, .inl (cI, 4, .inl kR)), (okP, .inl (cI, 4, .inl kP)), (okQ, .inl (cI, 4, .inl kQ)), (oli, .inl (cI, 1320, .inl li))] H → va_D A [(oM, .inr (5, [.int mth, .int mpl, .ref obd, .int msd, .int mrt, .int mps, .int mqt, .int mmd, .ref opa, .ref opS, .ref opR, .ref opG, .ref opP, .ref opQ, .ref okp, .ref okS, .ref okR, .ref okP, .ref okQ, .ref oli])), (obd, .inl (cI, 64, .inl bd)), (opa, .inl (cI, 9664, .inl pa)), (opS, .inl (cI, 151, .inl pS)), (opR, .inl (cI, 151, .inl pR)), (opG, .inl (cI, 151, .inl pG)), (opP, .inl (cI, 151, .inl pP)), (opQ, .inl (cI, 151, .inl pQ)), (okp, .inl (cI, 256, .inl kp)), (okS, .inl (cI, 4, .inl kS)), (okR, .inl (cI, 4, .inl kR)), (okP, .inl (cI, 4, .inl kP)), (okQ, .inl (cI, 4, .inl kQ)), (oli, .inl (cI, 1320, .inl li))] → va_S A s.heap H locs → bk_M_isHit_40 bd a1 a2 (lo_M_isHit_5 bd a1 a2 n5) x4 = some rr → W p l e rm_M_isHit s m ([.ref oM, .int a1, .int a2] : List Value).toArray below meth c H locs 0 0 Q (F0 m 40 ls []) := by
        intro x4 H locs ls hl hP hD hS hf
        rw [bk_M_isHit_40] at hf
        refine lv_iconst (v := 1) hx hb dd_M_isHit_40 (by decide) ?_
        refine lv_goto (tgt := 45) hx hb dd_M_isHit_41 (by decide) ?_
        exact hJ45 x4 1 _ _ _ (lv_sub hl [0, 1, 2, 3] rfl) hP hD hS hf
      intro x3 x4 H locs ls hl hP hD hS hf
      rw [lo_M_isHit_5_s] at hf
      refine lv_iload hx hb dd_M_isHit_5 (lv_at hl 4 rfl) ?_
      refine lv_bipush (v := 64) hx hb dd_M_isHit_7 (by decide) ?_
      refine lv_icmp_ge (tgt := 52) hx hb dd_M_isHit_9 (by decide) (fun hc => ?_) (fun hc => ?_)
      · replace hf := qq_t hc hf
        refine lv_iload_n hx hb dd_M_isHit_52 rfl (lv_at hl 3 rfl) ?_
        obtain ⟨hzb, hf⟩ := qq_ckE hf
        cases hf
        exact qq_zret hx hb hr (qq_bE hzb) hlocks hQ hP hD hK hS dd_M_isHit_53
      · replace hf := qq_f hc hf
        refine lv_iload_n hx hb dd_M_isHit_12 rfl (lv_at hl 3 rfl) ?_
        refine lv_if_ne (tgt := 40) hx hb dd_M_isHit_13 (by decide) (fun hc => ?_) (fun hc => ?_)
        · replace hf := qq_f hc hf
          exact hJ40 x4 _ _ _ (lv_sub hl [0, 1, 2, 4] rfl) hP hD hS hf
        · replace hf := qq_t hc hf
          refine lv_aload_n hx hb dd_M_isHit_16 rfl (lv_at hl 0 rfl) ?_
          refine va_get (D := (dC, dI)) (ci := 5) (v := .ref obd) (C := RR_M) (T := FF_M) (N := 20) hx hb hts uu_M hown hK hP 0 rfl rfl 2 (by decide) (hts _ mm_209) (fun _ h9 => h9) rfl dd_M_isHit_17 ?_
          refine lv_iload hx hb dd_M_isHit_20 (lv_at hl 4 rfl) ?_
          obtain ⟨hi4001, hf⟩ := qq_ckE hf
          refine va_iald (D := (dC, dI)) (f := bd) (n := 64) (cA := cI) hx hb hK hP 1 0 rfl rfl (qq_inE hi4001) dd_M_isHit_22 ?_
          refine lv_iload_n hx hb dd_M_isHit_23 rfl (lv_at hl 1 rfl) ?_
          obtain ⟨r4002, hy4002, hf⟩ := qq_bd hf
          refine qq_S (As := [.int (bd x4.toNatClampNeg), .int a1]) (rest := []) (wr := [(oM, .inr (5, [.int mth, .int mpl, .ref obd, .int msd, .int mrt, .int mps, .int mqt, .int mmd, .ref opa, .ref opS, .ref opR, .ref opG, .ref opP, .ref opQ, .ref okp, .ref okS, .ref okR, .ref okP, .ref okQ, .ref oli])), (obd, .inl (cI, 64, .inl bd)), (opa, .inl (cI, 9664, .inl pa)), (opS, .inl (cI, 151, .inl pS)), (opR, .inl (cI, 151, .inl pR)), (opG, .inl (cI, 151, .inl pG)), (opP, .inl (cI, 151, .inl pP)), (opQ, .inl (cI, 151, .inl pQ)), (okp, .inl (cI, 256, .inl kp)), (okS, .inl (cI, 4, .inl kS)), (okR, .inl (cI, 4, .inl kR)), (okP, .inl (cI, 4, .inl kP)), (okQ, .inl (cI, 4, .inl kQ)), (oli, .inl (cI, 1320, .inl li))]) (wf := [(oM, .inr (5, [.int mth, .int mpl, .ref obd, .int msd, .int mrt, .int mps, .int mqt, .int mmd, .ref opa, .ref opS, .ref opR, .ref opG, .ref opP, .ref opQ, .ref okp, .ref okS, .ref okR, .ref okP, .ref okQ, .ref oli])), (obd, .inl (cI, 64, .inl bd)), (opa, .inl (cI, 9664, .inl pa)), (opS, .inl (cI, 151, .inl pS)), (opR, .inl (cI, 151, .inl pR)), (opG, .inl (cI, 151, .inl pG)), (opP, .inl (cI, 151, .inl pP)), (opQ, .inl (cI, 151, .inl pQ)), (okp, .inl (cI, 256, .inl kp)), (okS, .inl (cI, 4, .inl kS)), (okR, .inl (cI, 4, .inl kR)), (okP, .inl (cI, 4, .inl kP)), (okQ, .inl (cI, 4, .inl kQ)), (oli, .inl (cI, 1320, .inl li))]) ⟨hx, hb, hml, hown, hts⟩ (ct_M_isOf l dC dI cI cL cR (bd x4.toNatClampNeg) a1 hy4002) mm_241 mm_242 mm_240 mm_211 hd_M_isOf (by decide) qq_00 hP hD hK hS hA hT hN [] [0, 1, 2, 3, 4, 5, 6, 7, 8, 9, 10, 11, 12, 13] [0, 1, 2, 3, 4, 5, 6, 7, 8, 9, 10, 11, 12, 13] rfl rfl rfl (by decide) rfl hl.1 rfl (Nat.le_of_ble_eq_true rfl) dd_M_isHit_24 (fun H locs hP hD hS => ?_)
          refine W.eq (g2 := F0 m 27 ls [.int r4002]) rfl ?_
          refine lv_if_eq (tgt := 44) hx hb dd_M_isHit_27 (by decide) (fun hc => ?_) (fun hc => ?_)
          · replace hf := qq_t hc hf
            exact hJ44 x4 _ _ _ (lv_sub hl [0, 1, 2, 4] rfl) hP hD hS hf
          · replace hf := qq_f hc hf
            refine lv_aload_n hx hb dd_M_isHit_30 rfl (lv_at hl 0 rfl) ?_
            refine lv_iload hx hb dd_M_isHit_31 (lv_at hl 4 rfl) ?_
            refine lv_iload_n hx hb dd_M_isHit_33 rfl (lv_at hl 2 rfl) ?_
            obtain ⟨r4003, hy4003, hf⟩ := qq_bd hf
            refine qq_V (As := [.int x4, .int a2]) (rest := []) (wr := []) (wf := [(oM, .inr (5, [.int mth, .int mpl, .ref obd, .int msd, .int mrt, .int mps, .int mqt, .int mmd, .ref opa, .ref opS, .ref opR, .ref opG, .ref opP, .ref opQ, .ref okp, .ref okS, .ref okR, .ref okP, .ref okQ, .ref oli])), (obd, .inl (cI, 64, .inl bd)), (opa, .inl (cI, 9664, .inl pa)), (opS, .inl (cI, 151, .inl pS)), (opR, .inl (cI, 151, .inl pR)), (opG, .inl (cI, 151, .inl pG)), (opP, .inl (cI, 151, .inl pP)), (opQ, .inl (cI, 151, .inl pQ)), (okp, .inl (cI, 256, .inl kp)), (okS, .inl (cI, 4, .inl kS)), (okR, .inl (cI, 4, .inl kR)), (okP, .inl (cI, 4, .inl kP)), (okQ, .inl (cI, 4, .inl kQ)), (oli, .inl (cI, 1320, .inl li))]) ⟨hx, hb, hml, hown, hts⟩ (ct_M_reaches l dC dI cI cL cR oM obd opa opS opR opG opP opQ okp okS okR okP okQ oli mth mpl msd mrt mps mqt mmd bd pa pS pR pG pP pQ kp kS kR kP kQ li x4 a2 hy4003) mm_230 mm_231 mm_232 mm_229 mm_211 hd_M_reaches (by decide) qq_00 hP hD hK hS hA hT hN (q0 := 0) (ci := 5) rfl rfl [0, 1, 2, 3, 4, 5, 6, 7, 8, 9, 10, 11, 12, 13] [] [0, 1, 2, 3, 4, 5, 6, 7, 8, 9, 10, 11, 12, 13] rfl rfl rfl (by decide) rfl hl.1 rfl (Nat.le_of_ble_eq_true rfl) dd_M_isHit_34 (fun H locs hP hD hS => ?_)
            refine W.eq (g2 := F0 m 37 ls [.int r4003]) rfl ?_
            refine lv_if_eq (tgt := 44) hx hb dd_M_isHit_37 (by decide) (fun hc => ?_) (fun hc => ?_)
            · replace hf := qq_t hc hf
              exact hJ44 x4 _ _ _ (lv_sub hl [0, 1, 2, 4] rfl) hP hD hS hf
            · replace hf := qq_f hc hf
              exact hJ40 x4 _ _ _ (lv_sub hl [0, 1, 2, 4] rfl) hP hD hS hf
  rw [fn_M_isHit] at hf
  refine lv_iconst (v := 0) hx hb dd_M_isHit_0 (by decide) ?_
  refine lv_istore_n (lv' := [(3, .int 0), (0, .ref oM), (1, .int a1), (2, .int a2)]) hx hb dd_M_isHit_1 rfl hl (by decide) rfl (fun ls hl => ?_)
  refine lv_iconst (v := 0) hx hb dd_M_isHit_2 (by decide) ?_
  refine lv_istore (lv' := [(4, .int 0), (3, .int 0), (0, .ref oM), (1, .int a1), (2, .int a2)]) hx hb dd_M_isHit_3 hl (by decide) rfl (fun ls hl => ?_)
  exact hL5 qq_FU 0 0 _ _ _ (lv_sub hl [2, 3, 4, 1, 0] rfl) hP hD hS hf
theorem dd_M_isChecked_0 : decode bb_M_isChecked 0 = .ok (.aload_n 0, 1) := by decide +kernel
theorem dd_M_isChecked_1 : decode bb_M_isChecked 1 = .ok (.iconst 1, 1) := by decide +kernel
theorem dd_M_isChecked_2 : decode bb_M_isChecked 2 = .ok (.iload_n 1, 1) := by decide +kernel
theorem dd_M_isChecked_3 : decode bb_M_isChecked 3 = .ok (.isub, 1) := by decide +kernel
theorem dd_M_isChecked_4 : decode bb_M_isChecked 4 = .ok (.aload_n 0, 1) := by decide +kernel
theorem dd_M_isChecked_5 : decode bb_M_isChecked 5 = .ok (.iload_n 1, 1) := by decide +kernel
theorem dd_M_isChecked_6 : decode bb_M_isChecked 6 = .ok (.invokevirtual 89, 3) := by decide +kernel
theorem dd_M_isChecked_9 : decode bb_M_isChecked 9 = .ok (.invokevirtual 92, 3) := by decide +kernel
theorem dd_M_isChecked_12 : decode bb_M_isChecked 12 = .ok (.ireturn, 1) := by decide +kernel
abbrev ty_M_isChecked : Type := Int32
noncomputable def fn_M_isChecked (bd : Nat → Int32) (a1 : Int32) : Option ty_M_isChecked := (fn_M_kingOf bd a1).bind fun r1 => (fn_M_isHit bd (1 - a1) r1).bind fun r2 => qq_ck (qq_b r2) <| some r2
abbrev rm_M_isChecked : Room := { frames := 4, cells := 0, slots := 0, locals := 94 }
set_option maxHeartbeats 4000000 in
set_option maxRecDepth 100000 in
theorem ct_M_isChecked (l : Launch) (dC : Nat → ClassId) (dI : Nat → Nat → Nat) (cI cL cR : ClassId) (oM obd opa opS opR opG opP opQ okp okS okR okP okQ oli : Nat) (mth : Int32) (mpl : Int32) (msd : Int32) (mrt : Int32) (mps : Int32) (mqt : Int32) (mmd : Int32) (bd : Nat → Int32) (pa : Nat → Int32) (pS : Nat → Int32) (pR : Nat → Int32) (pG : Nat → Int32) (pP : Nat → Int32) (pQ : Nat → Int32) (kp : Nat → Int32) (kS : Nat → Int32) (kR : Nat → Int32) (kP : Nat → Int32) (kQ : Nat → Int32) (li : Nat → Int32) (a1 : Int32) {rr : Int32} (hf : fn_M_isChecked bd a1 = some rr) : qq_det l yy_M_isChecked (ww_of yy_M_isChecked bb_M_isChecked 2 (some .boolean)) rm_M_isChecked (dC, dI) (qq_ty cI cL cR) [.ref oM, .int a1] [(oM, .inr (5, [.int mth, .int mpl, .ref obd, .int msd, .int mrt, .int mps, .int mqt, .int mmd, .ref opa, .ref opS, .ref opR, .ref opG, .ref opP, .ref opQ, .ref okp, .ref okS, .ref okR, .ref okP, .ref okQ, .ref oli])), (obd, .inl (cI, 64, .inl bd)), (opa, .inl (cI, 9664, .inl pa)), (opS, .inl (cI, 151, .inl pS)), (opR, .inl (cI, 151, .inl pR)), (opG, .inl (cI, 151, .inl pG)), (opP, .inl (cI, 151, .inl pP)), (opQ, .inl (cI, 151, .inl pQ)), (okp, .inl (cI, 256, .inl kp)), (okS, .inl (cI, 4, .inl kS)), (okR, .inl (cI, 4, .inl kR)), (okP, .inl (cI, 4, .inl kP)), (okQ, .inl (cI, 4, .inl kQ)), (oli, .inl (cI, 1320, .inl li))] (some (.int rr)) [(oM, .inr (5, [.int mth, .int mpl, .ref obd, .int msd, .int mrt, .int mps, .int mqt, .int mmd, .ref opa, .ref opS, .ref opR, .ref opG, .ref opP, .ref opQ, .ref okp, .ref okS, .ref okR, .ref okP, .ref okQ, .ref oli])), (obd, .inl (cI, 64, .inl bd)), (opa, .inl (cI, 9664, .inl pa)), (opS, .inl (cI, 151, .inl pS)), (opR, .inl (cI, 151, .inl pR)), (opG, .inl (cI, 151, .inl pG)), (opP, .inl (cI, 151, .inl pP)), (opQ, .inl (cI, 151, .inl pQ)), (okp, .inl (cI, 256, .inl kp)), (okS, .inl (cI, 4, .inl kS)), (okR, .inl (cI, 4, .inl kR)), (okP, .inl (cI, 4, .inl kP)), (okQ, .inl (cI, 4, .inl kQ)), (oli, .inl (cI, 1320, .inl li))] := by
  refine qq_of (own := RR_M) (by decide) rfl (Nat.le_of_ble_eq_true rfl) ?_
  intro p e s m below meth c A Q ls hx hb hml hr hlocks hown hts hK hA hT hN hP hD hS hl hQ
  have hl : lv_has ls 2 [(0, .ref oM), (1, .int a1)] := hl
  rw [fn_M_isChecked] at hf
  refine lv_aload_n hx hb dd_M_isChecked_0 rfl (lv_at hl 0 rfl) ?_
  refine lv_iconst (v := 1) hx hb dd_M_isChecked_1 (by decide) ?_
  refine lv_iload_n hx hb dd_M_isChecked_2 rfl (lv_at hl 1 rfl) ?_
  refine lv_isub hx hb dd_M_isChecked_3 ?_
  refine lv_aload_n hx hb dd_M_isChecked_4 rfl (lv_at hl 0 rfl) ?_
  refine lv_iload_n hx hb dd_M_isChecked_5 rfl (lv_at hl 1 rfl) ?_
  obtain ⟨r1, hy1, hf⟩ := qq_bd hf
  refine qq_V (As := [.int a1]) (rest := [.int (1 - a1), .ref oM]) (wr := []) (wf := [(oM, .inr (5, [.int mth, .int mpl, .ref obd, .int msd, .int mrt, .int mps, .int mqt, .int mmd, .ref opa, .ref opS, .ref opR, .ref opG, .ref opP, .ref opQ, .ref okp, .ref okS, .ref okR, .ref okP, .ref okQ, .ref oli])), (obd, .inl (cI, 64, .inl bd)), (opa, .inl (cI, 9664, .inl pa)), (opS, .inl (cI, 151, .inl pS)), (opR, .inl (cI, 151, .inl pR)), (opG, .inl (cI, 151, .inl pG)), (opP, .inl (cI, 151, .inl pP)), (opQ, .inl (cI, 151, .inl pQ)), (okp, .inl (cI, 256, .inl kp)), (okS, .inl (cI, 4, .inl kS)), (okR, .inl (cI, 4, .inl kR)), (okP, .inl (cI, 4, .inl kP)), (okQ, .inl (cI, 4, .inl kQ)), (oli, .inl (cI, 1320, .inl li))]) ⟨hx, hb, hml, hown, hts⟩ (ct_M_kingOf l dC dI cI cL cR oM obd opa opS opR opG opP opQ okp okS okR okP okQ oli mth mpl msd mrt mps mqt mmd bd pa pS pR pG pP pQ kp kS kR kP kQ li a1 hy1) mm_244 mm_245 mm_246 mm_243 mm_211 hd_M_kingOf (by decide) qq_00 hP hD hK hS hA hT hN (q0 := 0) (ci := 5) rfl rfl [0, 1, 2, 3, 4, 5, 6, 7, 8, 9, 10, 11, 12, 13] [] [0, 1, 2, 3, 4, 5, 6, 7, 8, 9, 10, 11, 12, 13] rfl rfl rfl (by decide) rfl hl.1 rfl (Nat.le_of_ble_eq_true rfl) dd_M_isChecked_6 (fun H locs hP hD hS => ?_)
  refine W.eq (g2 := F0 m 9 ls [.int r1, .int (1 - a1), .ref oM]) rfl ?_
  obtain ⟨r2, hy2, hf⟩ := qq_bd hf
  refine qq_V (As := [.int (1 - a1), .int r1]) (rest := []) (wr := []) (wf := [(oM, .inr (5, [.int mth, .int mpl, .ref obd, .int msd, .int mrt, .int mps, .int mqt, .int mmd, .ref opa, .ref opS, .ref opR, .ref opG, .ref opP, .ref opQ, .ref okp, .ref okS, .ref okR, .ref okP, .ref okQ, .ref oli])), (obd, .inl (cI, 64, .inl bd)), (opa, .inl (cI, 9664, .inl pa)), (opS, .inl (cI, 151, .inl pS)), (opR, .inl (cI, 151, .inl pR)), (opG, .inl (cI, 151, .inl pG)), (opP, .inl (cI, 151, .inl pP)), (opQ, .inl (cI, 151, .inl pQ)), (okp, .inl (cI, 256, .inl kp)), (okS, .inl (cI, 4, .inl kS)), (okR, .inl (cI, 4, .inl kR)), (okP, .inl (cI, 4, .inl kP)), (okQ, .inl (cI, 4, .inl kQ)), (oli, .inl (cI, 1320, .inl li))]) ⟨hx, hb, hml, hown, hts⟩ (ct_M_isHit l dC dI cI cL cR oM obd opa opS opR opG opP opQ okp okS okR okP okQ oli mth mpl msd mrt mps mqt mmd bd pa pS pR pG pP pQ kp kS kR kP kQ li (1 - a1) r1 hy2) mm_248 mm_249 mm_250 mm_247 mm_211 hd_M_isHit (by decide) qq_00 hP hD hK hS hA hT hN (q0 := 0) (ci := 5) rfl rfl [0, 1, 2, 3, 4, 5, 6, 7, 8, 9, 10, 11, 12, 13] [] [0, 1, 2, 3, 4, 5, 6, 7, 8, 9, 10, 11, 12, 13] rfl rfl rfl (by decide) rfl hl.1 rfl (Nat.le_of_ble_eq_true rfl) dd_M_isChecked_9 (fun H locs hP hD hS => ?_)
  refine W.eq (g2 := F0 m 12 ls [.int r2]) rfl ?_
  obtain ⟨hzb, hf⟩ := qq_ckE hf
  cases hf
  exact qq_zret hx hb hr (qq_bE hzb) hlocks hQ hP hD hK hS dd_M_isChecked_12
theorem dd_M_castles_0 : decode bb_M_castles 0 = .ok (.bipush 56, 2) := by decide +kernel
theorem dd_M_castles_2 : decode bb_M_castles 2 = .ok (.aload_n 0, 1) := by decide +kernel
theorem dd_M_castles_3 : decode bb_M_castles 3 = .ok (.getfield 95, 3) := by decide +kernel
theorem dd_M_castles_6 : decode bb_M_castles 6 = .ok (.imul, 1) := by decide +kernel
theorem dd_M_castles_7 : decode bb_M_castles 7 = .ok (.istore_n 3, 1) := by decide +kernel
theorem dd_M_castles_8 : decode bb_M_castles 8 = .ok (.iload_n 2, 1) := by decide +kernel
theorem dd_M_castles_9 : decode bb_M_castles 9 = .ok (.iload_n 3, 1) := by decide +kernel
theorem dd_M_castles_10 : decode bb_M_castles 10 = .ok (.bipush 6, 2) := by decide +kernel
theorem dd_M_castles_12 : decode bb_M_castles 12 = .ok (.iadd, 1) := by decide +kernel
theorem dd_M_castles_13 : decode bb_M_castles 13 = .ok (.if_icmp .ne 7, 3) := by decide +kernel
theorem dd_M_castles_16 : decode bb_M_castles 16 = .ok (.iconst 1, 1) := by decide +kernel
theorem dd_M_castles_17 : decode bb_M_castles 17 = .ok (.goto 4, 3) := by decide +kernel
theorem dd_M_castles_20 : decode bb_M_castles 20 = .ok (.iconst 0, 1) := by decide +kernel
theorem dd_M_castles_21 : decode bb_M_castles 21 = .ok (.istore 4, 2) := by decide +kernel
theorem dd_M_castles_23 : decode bb_M_castles 23 = .ok (.iload 4, 2) := by decide +kernel
theorem dd_M_castles_25 : decode bb_M_castles 25 = .ok (.ifCond .eq 7, 3) := by decide +kernel
theorem dd_M_castles_28 : decode bb_M_castles 28 = .ok (.iconst 1, 1) := by decide +kernel
theorem dd_M_castles_29 : decode bb_M_castles 29 = .ok (.goto 4, 3) := by decide +kernel
theorem dd_M_castles_32 : decode bb_M_castles 32 = .ok (.iconst 2, 1) := by decide +kernel
theorem dd_M_castles_33 : decode bb_M_castles 33 = .ok (.iconst 2, 1) := by decide +kernel
theorem dd_M_castles_34 : decode bb_M_castles 34 = .ok (.aload_n 0, 1) := by decide +kernel
theorem dd_M_castles_35 : decode bb_M_castles 35 = .ok (.getfield 95, 3) := by decide +kernel
theorem dd_M_castles_38 : decode bb_M_castles 38 = .ok (.imul, 1) := by decide +kernel
theorem dd_M_castles_39 : decode bb_M_castles 39 = .ok (.ishl, 1) := by decide +kernel
theorem dd_M_castles_40 : decode bb_M_castles 40 = .ok (.istore 5, 2) := by decide +kernel
theorem dd_M_castles_42 : decode bb_M_castles 42 = .ok (.iload_n 1, 1) := by decide +kernel
theorem dd_M_castles_43 : decode bb_M_castles 43 = .ok (.iload_n 3, 1) := by decide +kernel
theorem dd_M_castles_44 : decode bb_M_castles 44 = .ok (.iconst 4, 1) := by decide +kernel
theorem dd_M_castles_45 : decode bb_M_castles 45 = .ok (.iadd, 1) := by decide +kernel
theorem dd_M_castles_46 : decode bb_M_castles 46 = .ok (.if_icmp .ne 25, 3) := by decide +kernel
theorem dd_M_castles_49 : decode bb_M_castles 49 = .ok (.iload 4, 2) := by decide +kernel
theorem dd_M_castles_51 : decode bb_M_castles 51 = .ok (.ifCond .ne 10, 3) := by decide +kernel
theorem dd_M_castles_54 : decode bb_M_castles 54 = .ok (.iload_n 2, 1) := by decide +kernel
theorem dd_M_castles_55 : decode bb_M_castles 55 = .ok (.iload_n 3, 1) := by decide +kernel
theorem dd_M_castles_56 : decode bb_M_castles 56 = .ok (.iconst 2, 1) := by decide +kernel
theorem dd_M_castles_57 : decode bb_M_castles 57 = .ok (.iadd, 1) := by decide +kernel
theorem dd_M_castles_58 : decode bb_M_castles 58 = .ok (.if_icmp .ne 13, 3) := by decide +kernel
theorem dd_M_castles_61 : decode bb_M_castles 61 = .ok (.aload_n 0, 1) := by decide +kernel
theorem dd_M_castles_62 : decode bb_M_castles 62 = .ok (.getfield 53, 3) := by decide +kernel
theorem dd_M_castles_65 : decode bb_M_castles 65 = .ok (.iload 5, 2) := by decide +kernel
theorem dd_M_castles_67 : decode bb_M_castles 67 = .ok (.iand, 1) := by decide +kernel
theorem dd_M_castles_68 : decode bb_M_castles 68 = .ok (.ifCond .ne 5, 3) := by decide +kernel
theorem dd_M_castles_71 : decode bb_M_castles 71 = .ok (.iconst 0, 1) := by decide +kernel
theorem dd_M_castles_72 : decode bb_M_castles 72 = .ok (.ireturn, 1) := by decide +kernel
theorem dd_M_castles_73 : decode bb_M_castles 73 = .ok (.aload_n 0, 1) := by decide +kernel
theorem dd_M_castles_74 : decode bb_M_castles 74 = .ok (.iload_n 1, 1) := by decide +kernel
theorem dd_M_castles_75 : decode bb_M_castles 75 = .ok (.iload 4, 2) := by decide +kernel
theorem dd_M_castles_77 : decode bb_M_castles 77 = .ok (.ifCond .eq 10, 3) := by decide +kernel
theorem dd_M_castles_80 : decode bb_M_castles 80 = .ok (.iload_n 3, 1) := by decide +kernel
theorem dd_M_castles_81 : decode bb_M_castles 81 = .ok (.bipush 7, 2) := by decide +kernel
theorem dd_M_castles_83 : decode bb_M_castles 83 = .ok (.iadd, 1) := by decide +kernel
theorem dd_M_castles_84 : decode bb_M_castles 84 = .ok (.goto 4, 3) := by decide +kernel
theorem dd_M_castles_87 : decode bb_M_castles 87 = .ok (.iload_n 3, 1) := by decide +kernel
theorem dd_M_castles_88 : decode bb_M_castles 88 = .ok (.invokevirtual 79, 3) := by decide +kernel
theorem dd_M_castles_91 : decode bb_M_castles 91 = .ok (.ifCond .eq 36, 3) := by decide +kernel
theorem dd_M_castles_94 : decode bb_M_castles 94 = .ok (.aload_n 0, 1) := by decide +kernel
theorem dd_M_castles_95 : decode bb_M_castles 95 = .ok (.aload_n 0, 1) := by decide +kernel
theorem dd_M_castles_96 : decode bb_M_castles 96 = .ok (.getfield 95, 3) := by decide +kernel
theorem dd_M_castles_99 : decode bb_M_castles 99 = .ok (.invokevirtual 105, 3) := by decide +kernel
theorem dd_M_castles_102 : decode bb_M_castles 102 = .ok (.ifCond .ne 25, 3) := by decide +kernel
theorem dd_M_castles_105 : decode bb_M_castles 105 = .ok (.aload_n 0, 1) := by decide +kernel
theorem dd_M_castles_106 : decode bb_M_castles 106 = .ok (.iconst 1, 1) := by decide +kernel
theorem dd_M_castles_107 : decode bb_M_castles 107 = .ok (.aload_n 0, 1) := by decide +kernel
theorem dd_M_castles_108 : decode bb_M_castles 108 = .ok (.getfield 95, 3) := by decide +kernel
theorem dd_M_castles_111 : decode bb_M_castles 111 = .ok (.isub, 1) := by decide +kernel
theorem dd_M_castles_112 : decode bb_M_castles 112 = .ok (.iload_n 1, 1) := by decide +kernel
theorem dd_M_castles_113 : decode bb_M_castles 113 = .ok (.iload_n 2, 1) := by decide +kernel
theorem dd_M_castles_114 : decode bb_M_castles 114 = .ok (.iadd, 1) := by decide +kernel
theorem dd_M_castles_115 : decode bb_M_castles 115 = .ok (.iconst 2, 1) := by decide +kernel
theorem dd_M_castles_116 : decode bb_M_castles 116 = .ok (.idiv, 1) := by decide +kernel
theorem dd_M_castles_117 : decode bb_M_castles 117 = .ok (.invokevirtual 92, 3) := by decide +kernel
theorem dd_M_castles_120 : decode bb_M_castles 120 = .ok (.ifCond .ne 7, 3) := by decide +kernel
theorem dd_M_castles_123 : decode bb_M_castles 123 = .ok (.iconst 1, 1) := by decide +kernel
theorem dd_M_castles_124 : decode bb_M_castles 124 = .ok (.goto 4, 3) := by decide +kernel
theorem dd_M_castles_127 : decode bb_M_castles 127 = .ok (.iconst 0, 1) := by decide +kernel
theorem dd_M_castles_128 : decode bb_M_castles 128 = .ok (.ireturn, 1) := by decide +kernel
abbrev ty_M_castles : Type := Int32
noncomputable def bk_M_castles_128 (msd : Int32) (mrt : Int32) (bd : Nat → Int32) (a1 : Int32) (a2 : Int32) (s0 : Int32) : Option ty_M_castles := qq_ck (qq_b s0) <| some s0
noncomputable def bk_M_castles_127 (msd : Int32) (mrt : Int32) (bd : Nat → Int32) (a1 : Int32) (a2 : Int32) : Option ty_M_castles := bk_M_castles_128 msd mrt bd a1 a2 0
noncomputable def bk_M_castles_88 (msd : Int32) (mrt : Int32) (bd : Nat → Int32) (a1 : Int32) (a2 : Int32) (s1 : Int32) (s2 : Int32) : Option ty_M_castles := (fn_M_free bd s1 s2).bind fun r3001 => if r3001 = 0 then (bk_M_castles_127 msd mrt bd a1 a2) else ((fn_M_isChecked bd msd).bind fun r3002 => if r3002 = 0 then ((fn_M_isHit bd (1 - msd) ((a1 + a2) / 2)).bind fun r3003 => if r3003 = 0 then (bk_M_castles_128 msd mrt bd a1 a2 1) else (bk_M_castles_127 msd mrt bd a1 a2)) else (bk_M_castles_127 msd mrt bd a1 a2))
noncomputable def bk_M_castles_71 (msd : Int32) (mrt : Int32) (bd : Nat → Int32) (a1 : Int32) (a2 : Int32) : Option ty_M_castles := some (0 : Int32)
noncomputable def bk_M_castles_61 (msd : Int32) (mrt : Int32) (bd : Nat → Int32) (a1 : Int32) (a2 : Int32) (x3 : Int32) (x4 : Int32) (x5 : Int32) : Option ty_M_castles := if (mrt &&& x5) = 0 then (bk_M_castles_71 msd mrt bd a1 a2) else (if x4 = 0 then (bk_M_castles_88 msd mrt bd a1 a2 a1 x3) else (bk_M_castles_88 msd mrt bd a1 a2 a1 (x3 + 7)))
noncomputable def bk_M_castles_33 (msd : Int32) (mrt : Int32) (bd : Nat → Int32) (a1 : Int32) (a2 : Int32) (x3 : Int32) (x4 : Int32) (s0 : Int32) : Option ty_M_castles := qq_let (s0 <<< ((2 * msd) &&& 31)) fun v6001 => if a1 = (x3 + 4) then (if x4 = 0 then (if a2 = (x3 + 2) then (bk_M_castles_61 msd mrt bd a1 a2 x3 x4 v6001) else (bk_M_castles_71 msd mrt bd a1 a2)) else (bk_M_castles_61 msd mrt bd a1 a2 x3 x4 v6001)) else (bk_M_castles_71 msd mrt bd a1 a2)
noncomputable def bk_M_castles_21 (msd : Int32) (mrt : Int32) (bd : Nat → Int32) (a1 : Int32) (a2 : Int32) (x3 : Int32) (s0 : Int32) : Option ty_M_castles := if s0 = 0 then (bk_M_castles_33 msd mrt bd a1 a2 x3 s0 2) else (bk_M_castles_33 msd mrt bd a1 a2 x3 s0 1)
noncomputable def fn_M_castles (msd : Int32) (mrt : Int32) (bd : Nat → Int32) (a1 : Int32) (a2 : Int32) : Option ty_M_castles := qq_let (56 * msd) fun v1 => if a2 = (v1 + 6) then (bk_M_castles_21 msd mrt bd a1 a2 v1 1) else (bk_M_castles_21 msd mrt bd a1 a2 v1 0)
abbrev rm_M_castles : Room := { frames := 5, cells := 0, slots := 0, locals := 115 }
set_option maxHeartbeats 4000000 in
set_option maxRecDepth 100000 in
theorem ct_M_castles (l : Launch) (dC : Nat → ClassId) (dI : Nat → Nat → Nat) (cI cL cR : ClassId) (oM obd opa opS opR opG opP opQ okp okS okR okP okQ oli : Nat) (mth : Int32) (mpl : Int32) (msd : Int32) (mrt : Int32) (mps : Int32) (mqt : Int32) (mmd : Int32) (bd : Nat → Int32) (pa : Nat → Int32) (pS : Nat → Int32) (pR : Nat → Int32) (pG : Nat → Int32) (pP : Nat → Int32) (pQ : Nat → Int32) (kp : Nat → Int32) (kS : Nat → Int32) (kR : Nat → Int32) (kP : Nat → Int32) (kQ : Nat → Int32) (li : Nat → Int32) (a1 : Int32) (a2 : Int32) {rr : Int32} (hf : fn_M_castles msd mrt bd a1 a2 = some rr) : qq_det l yy_M_castles (ww_of yy_M_castles bb_M_castles 6 (some .boolean)) rm_M_castles (dC, dI) (qq_ty cI cL cR) [.ref oM, .int a1, .int a2] [(oM, .inr (5, [.int mth, .int mpl, .ref obd, .int msd, .int mrt, .int mps, .int mqt, .int mmd, .ref opa, .ref opS, .ref opR, .ref opG, .ref opP, .ref opQ, .ref okp, .ref okS, .ref okR, .ref okP, .ref okQ, .ref oli])), (obd, .inl (cI, 64, .inl bd)), (opa, .inl (cI, 9664, .inl pa)), (opS, .inl (cI, 151, .inl pS)), (opR, .inl (cI, 151, .inl pR)), (opG, .inl (cI, 151, .inl pG)), (opP, .inl (cI, 151, .inl pP)), (opQ, .inl (cI, 151, .inl pQ)), (okp, .inl (cI, 256, .inl kp)), (okS, .inl (cI, 4, .inl kS)), (okR, .inl (cI, 4, .inl kR)), (okP, .inl (cI, 4, .inl kP)), (okQ, .inl (cI, 4, .inl kQ)), (oli, .inl (cI, 1320, .inl li))] (some (.int rr)) [(oM, .inr (5, [.int mth, .int mpl, .ref obd, .int msd, .int mrt, .int mps, .int mqt, .int mmd, .ref opa, .ref opS, .ref opR, .ref opG, .ref opP, .ref opQ, .ref okp, .ref okS, .ref okR, .ref okP, .ref okQ, .ref oli])), (obd, .inl (cI, 64, .inl bd)), (opa, .inl (cI, 9664, .inl pa)), (opS, .inl (cI, 151, .inl pS)), (opR, .inl (cI, 151, .inl pR)), (opG, .inl (cI, 151, .inl pG)), (opP, .inl (cI, 151, .inl pP)), (opQ, .inl (cI, 151, .inl pQ)), (okp, .inl (cI, 256, .inl kp)), (okS, .inl (cI, 4, .inl kS)), (okR, .inl (cI, 4, .inl kR)), (okP, .inl (cI, 4, .inl kP)), (okQ, .inl (cI, 4, .inl kQ)), (oli, .inl (cI, 1320, .inl li))] := by
  refine qq_of (own := RR_M) (by decide) rfl (Nat.le_of_ble_eq_true rfl) ?_
  intro p e s m below meth c A Q ls hx hb hml hr hlocks hown hts hK hA hT hN hP hD hS hl hQ
  have hl : lv_has ls 6 [(0, .ref oM), (1, .int a1), (2, .int a2)] := hl
  have hJ128 : ∀ (s0 : Int32) (H : Heap) (locs : List Loc) (ls : Array Slot), lv_has ls 6 [] → va_P (dC, dI) classes [(oM, .inr (5, [.int mth, .int mpl, .ref obd, .int msd, .int mrt, .int mps, .int mqt, .int mmd, .ref opa, .ref opS, .ref opR, .ref opG, .ref opP, .ref opQ, .ref okp, .ref okS, .ref okR, .ref okP, .ref okQ, .ref oli])), (obd, .inl (cI, 64, .inl bd)), (opa, .inl (cI, 9664, .inl pa)), (opS, .inl (cI, 151, .inl pS)), (opR, .inl (cI, 151, .inl pR)), (opG, .inl (cI, 151, .inl pG)), (opP, .inl (cI, 151, .inl pP)), (opQ, .inl (cI, 151, .inl pQ)), (okp, .inl (cI, 256, .inl kp)), (okS, .inl (cI, 4, .inl kS)), (okR, .inl (cI, 4, .inl kR)), (okP, .inl (cI, 4, .inl kP)), (okQ, .inl (cI, 4, .inl kQ)), (oli, .inl (cI, 1320, .inl li))] H → va_D A [(oM, .inr (5, [.int mth, .int mpl, .ref obd, .int msd, .int mrt, .int mps, .int mqt, .int mmd, .ref opa, .ref opS, .ref opR, .ref opG, .ref opP, .ref opQ, .ref okp, .ref okS, .ref okR, .ref okP, .ref okQ, .ref oli])), (obd, .inl (cI, 64, .inl bd)), (opa, .inl (cI, 9664, .inl pa)), (opS, .inl (cI, 151, .inl pS)), (opR, .inl (cI, 151, .inl pR)), (opG, .inl (cI, 151, .inl pG)), (opP, .inl (cI, 151, .inl pP)), (opQ, .inl (cI, 151, .inl pQ)), (okp, .inl (cI, 256, .inl kp)), (okS, .inl (cI, 4, .inl kS)), (okR, .inl (cI, 4, .inl kR)), (okP, .inl (cI, 4, .inl kP)), (okQ, .inl (cI, 4, .inl kQ)), (oli, .inl (cI, 1320, .inl li))] → va_S A s.heap H locs → bk_M_castles_128 msd mrt bd a1 a2 s0 = some rr → W p l e rm_M_castles s m ([.ref oM, .int a1, .int a2] : List Value).toArray below meth c H locs 0 0 Q (F0 m 128 ls [.int s0]) := by
    intro s0 H locs ls hl hP hD hS hf
    rw [bk_M_castles_128] at hf
    obtain ⟨hzb, hf⟩ := qq_ckE hf
    cases hf
    exact qq_zret hx hb hr (qq_bE hzb) hlocks hQ hP hD hK hS dd_M_castles_128
  have hJ127 : ∀  (H : Heap) (locs : List Loc) (ls : Array Slot), lv_has ls 6 [] → va_P (dC, dI) classes [(oM, .inr (5, [.int mth, .int mpl, .ref obd, .int msd, .int mrt, .int mps, .int mqt, .int mmd, .ref opa, .ref opS, .ref opR, .ref opG, .ref opP, .ref opQ, .ref okp, .ref okS, .ref okR, .ref okP, .ref okQ, .ref oli])), (obd, .inl (cI, 64, .inl bd)), (opa, .inl (cI, 9664, .inl pa)), (opS, .inl (cI, 151, .inl pS)), (opR, .inl (cI, 151, .inl pR)), (opG, .inl (cI, 151, .inl pG)), (opP, .inl (cI, 151, .inl pP)), (opQ, .inl (cI, 151, .inl pQ)), (okp, .inl (cI, 256, .inl kp)), (okS, .inl (cI, 4, .inl kS)), (okR, .inl (cI, 4, .inl kR)), (okP, .inl (cI, 4, .inl kP)), (okQ, .inl (cI, 4, .inl kQ)), (oli, .inl (cI, 1320, .inl li))] H → va_D A [(oM, .inr (5, [.int mth, .int mpl, .ref obd, .int msd, .int mrt, .int mps, .int mqt, .int mmd, .ref opa, .ref opS, .ref opR, .ref opG, .ref opP, .ref opQ, .ref okp, .ref okS, .ref okR, .ref okP, .ref okQ, .ref oli])), (obd, .inl (cI, 64, .inl bd)), (opa, .inl (cI, 9664, .inl pa)), (opS, .inl (cI, 151, .inl pS)), (opR, .inl (cI, 151, .inl pR)), (opG, .inl (cI, 151, .inl pG)), (opP, .inl (cI, 151, .inl pP)), (opQ, .inl (cI, 151, .inl pQ)), (okp, .inl (cI, 256, .inl kp)), (okS, .inl (cI, 4, .inl kS)), (okR, .inl (cI, 4, .inl kR)), (okP, .inl (cI, 4, .inl kP)), (okQ, .inl (cI, 4, .inl kQ)), (oli, .inl (cI, 1320, .inl li))] → va_S A s.heap H locs → bk_M_castles_127 msd mrt bd a1 a2 = some rr → W p l e rm_M_castles s m ([.ref oM, .int a1, .int a2] : List Value).toArray below meth c H locs 0 0 Q (F0 m 127 ls []) := by
    intro  H locs ls hl hP hD hS hf
    rw [bk_M_castles_127] at hf
    refine lv_iconst (v := 0) hx hb dd_M_castles_127 (by decide) ?_
    exact hJ128 0 _ _ _ (lv_sub hl [] rfl) hP hD hS hf
  have hJ88 : ∀ (s1 : Int32) (s2 : Int32) (H : Heap) (locs : List Loc) (ls : Array Slot), lv_has ls 6 [(0, .ref oM), (1, .int a1), (2, .int a2)] → va_P (dC, dI) classes [(oM, .inr (5, [.int mth, .int mpl, .ref obd, .int msd, .int mrt, .int mps, .int mqt, .int mmd, .ref opa, .ref opS, .ref opR, .ref opG, .ref opP, .ref opQ, .ref okp, .ref okS, .ref okR, .ref okP, .ref okQ, .ref oli])), (obd, .inl (cI, 64, .inl bd)), (opa, .inl (cI, 9664, .inl pa)), (opS, .inl (cI, 151, .inl pS)), (opR, .inl (cI, 151, .inl pR)), (opG, .inl (cI, 151, .inl pG)), (opP, .inl (cI, 151, .inl pP)), (opQ, .inl (cI, 151, .inl pQ)), (okp, .inl (cI, 256, .inl kp)), (okS, .inl (cI, 4, .inl kS)), (okR, .inl (cI, 4, .inl kR)), (okP, .inl (cI, 4, .inl kP)), (okQ, .inl (cI, 4, .inl kQ)), (oli, .inl (cI, 1320, .inl li))] H → va_D A [(oM, .inr (5, [.int mth, .int mpl, .ref obd, .int msd, .int mrt, .int mps, .int mqt, .int mmd, .ref opa, .ref opS, .ref opR, .ref opG, .ref opP, .ref opQ, .ref okp, .ref okS, .ref okR, .ref okP, .ref okQ, .ref oli])), (obd, .inl (cI, 64, .inl bd)), (opa, .inl (cI, 9664, .inl pa)), (opS, .inl (cI, 151, .inl pS)), (opR, .inl (cI, 151, .inl pR)), (opG, .inl (cI, 151, .inl pG)), (opP, .inl (cI, 151, .inl pP)), (opQ, .inl (cI, 151, .inl pQ)), (okp, .inl (cI, 256, .inl kp)), (okS, .inl (cI, 4, .inl kS)), (okR, .inl (cI, 4, .inl kR)), (okP, .inl (cI, 4, .inl kP)), (okQ, .inl (cI, 4, .inl kQ)), (oli, .inl (cI, 1320, .inl li))] → va_S A s.heap H locs → bk_M_castles_88 msd mrt bd a1 a2 s1 s2 = some rr → W p l e rm_M_castles s m ([.ref oM, .int a1, .int a2] : List Value).toArray below meth c H locs 0 0 Q (F0 m 88 ls [.int s2, .int s1, .ref oM]) := by
    intro s1 s2 H locs ls hl hP hD hS hf
    rw [bk_M_castles_88] at hf
    obtain ⟨r3001, hy3001, hf⟩ := qq_bd hf
    refine qq_V (As := [.int s1, .int s2]) (rest := []) (wr := []) (wf := [(oM, .inr (5, [.int mth, .int mpl, .ref obd, .int msd, .int mrt, .int mps, .int mqt, .int mmd, .ref opa, .ref opS, .ref opR, .ref opG, .ref opP, .ref opQ, .ref okp, .ref okS, .ref okR, .ref okP, .ref okQ, .ref oli])), (obd, .inl (cI, 64, .inl bd)), (opa, .inl (cI, 9664, .inl pa)), (opS, .inl (cI, 151, .inl pS)), (opR, .inl (cI, 151, .inl pR)), (opG, .inl (cI, 151, .inl pG)), (opP, .inl (cI, 151, .inl pP)), (opQ, .inl (cI, 151, .inl pQ)), (okp, .inl (cI, 256, .inl kp)), (okS, .inl (cI, 4, .inl kS)), (okR, .inl (cI, 4, .inl kR)), (okP, .inl (cI, 4, .inl kP)), (okQ, .inl (cI, 4, .inl kQ)), (oli, .inl (cI, 1320, .inl li))]) ⟨hx, hb, hml, hown, hts⟩ (ct_M_free l dC dI cI cL cR oM obd opa opS opR opG opP opQ okp okS okR okP okQ oli mth mpl msd mrt mps mqt mmd bd pa pS pR pG pP pQ kp kS kR kP kQ li s1 s2 hy3001) mm_215 mm_216 mm_217 mm_214 mm_211 hd_M_free (by decide) qq_00 hP hD hK hS hA hT hN (q0 := 0) (ci := 5) rfl rfl [0, 1, 2, 3, 4, 5, 6, 7, 8, 9, 10, 11, 12, 13] [] [0, 1, 2, 3, 4, 5, 6, 7, 8, 9, 10, 11, 12, 13] rfl rfl rfl (by decide) rfl hl.1 rfl (Nat.le_of_ble_eq_true rfl) dd_M_castles_88 (fun H locs hP hD hS => ?_)
    refine W.eq (g2 := F0 m 91 ls [.int r3001]) rfl ?_
    refine lv_if_eq (tgt := 127) hx hb dd_M_castles_91 (by decide) (fun hc => ?_) (fun hc => ?_)
    · replace hf := qq_t hc hf
      exact hJ127  _ _ _ (lv_sub hl [] rfl) hP hD hS hf
    · replace hf := qq_f hc hf
      refine lv_aload_n hx hb dd_M_castles_94 rfl (lv_at hl 0 rfl) ?_
      refine lv_aload_n hx hb dd_M_castles_95 rfl (lv_at hl 0 rfl) ?_
      refine va_get (D := (dC, dI)) (ci := 5) (v := .int msd) (C := RR_M) (T := FF_M) (N := 20) hx hb hts uu_M hown hK hP 0 rfl rfl 3 (by decide) (hts _ mm_228) (fun _ h9 => h9) rfl dd_M_castles_96 ?_
      obtain ⟨r3002, hy3002, hf⟩ := qq_bd hf
      refine qq_V (As := [.int msd]) (rest := []) (wr := []) (wf := [(oM, .inr (5, [.int mth, .int mpl, .ref obd, .int msd, .int mrt, .int mps, .int mqt, .int mmd, .ref opa, .ref opS, .ref opR, .ref opG, .ref opP, .ref opQ, .ref okp, .ref okS, .ref okR, .ref okP, .ref okQ, .ref oli])), (obd, .inl (cI, 64, .inl bd)), (opa, .inl (cI, 9664, .inl pa)), (opS, .inl (cI, 151, .inl pS)), (opR, .inl (cI, 151, .inl pR)), (opG, .inl (cI, 151, .inl pG)), (opP, .inl (cI, 151, .inl pP)), (opQ, .inl (cI, 151, .inl pQ)), (okp, .inl (cI, 256, .inl kp)), (okS, .inl (cI, 4, .inl kS)), (okR, .inl (cI, 4, .inl kR)), (okP, .inl (cI, 4, .inl kP)), (okQ, .inl (cI, 4, .inl kQ)), (oli, .inl (cI, 1320, .inl li))]) ⟨hx, hb, hml, hown, hts⟩ (ct_M_isChecked l dC dI cI cL cR oM obd opa opS opR opG opP opQ okp okS okR okP okQ oli mth mpl msd mrt mps mqt mmd bd pa pS pR pG pP pQ kp kS kR kP kQ li msd hy3002) mm_252 mm_253 mm_254 mm_251 mm_211 hd_M_isChecked (by decide) qq_00 hP hD hK hS hA hT hN (q0 := 0) (ci := 5) rfl rfl [0, 1, 2, 3, 4, 5, 6, 7, 8, 9, 10, 11, 12, 13] [] [0, 1, 2, 3, 4, 5, 6, 7, 8, 9, 10, 11, 12, 13] rfl rfl rfl (by decide) rfl hl.1 rfl (Nat.le_of_ble_eq_true rfl) dd_M_castles_99 (fun H locs hP hD hS => ?_)
      refine W.eq (g2 := F0 m 102 ls [.int r3002]) rfl ?_
      refine lv_if_ne (tgt := 127) hx hb dd_M_castles_102 (by decide) (fun hc => ?_) (fun hc => ?_)
      · replace hf := qq_f hc hf
        exact hJ127  _ _ _ (lv_sub hl [] rfl) hP hD hS hf
      · replace hf := qq_t hc hf
        refine lv_aload_n hx hb dd_M_castles_105 rfl (lv_at hl 0 rfl) ?_
        refine lv_iconst (v := 1) hx hb dd_M_castles_106 (by decide) ?_
        refine lv_aload_n hx hb dd_M_castles_107 rfl (lv_at hl 0 rfl) ?_
        refine va_get (D := (dC, dI)) (ci := 5) (v := .int msd) (C := RR_M) (T := FF_M) (N := 20) hx hb hts uu_M hown hK hP 0 rfl rfl 3 (by decide) (hts _ mm_228) (fun _ h9 => h9) rfl dd_M_castles_108 ?_
        refine lv_isub hx hb dd_M_castles_111 ?_
        refine lv_iload_n hx hb dd_M_castles_112 rfl (lv_at hl 1 rfl) ?_
        refine lv_iload_n hx hb dd_M_castles_113 rfl (lv_at hl 2 rfl) ?_
        refine lv_iadd hx hb dd_M_castles_114 ?_
        refine lv_iconst (v := 2) hx hb dd_M_castles_115 (by decide) ?_
        refine lv_idiv hx hb dd_M_castles_116 (by decide) ?_
        obtain ⟨r3003, hy3003, hf⟩ := qq_bd hf
        refine qq_V (As := [.int (1 - msd), .int ((a1 + a2) / 2)]) (rest := []) (wr := []) (wf := [(oM, .inr (5, [.int mth, .int mpl, .ref obd, .int msd, .int mrt, .int mps, .int mqt, .int mmd, .ref opa, .ref opS, .ref opR, .ref opG, .ref opP, .ref opQ, .ref okp, .ref okS, .ref okR, .ref okP, .ref okQ, .ref oli])), (obd, .inl (cI, 64, .inl bd)), (opa, .inl (cI, 9664, .inl pa)), (opS, .inl (cI, 151, .inl pS)), (opR, .inl (cI, 151, .inl pR)), (opG, .inl (cI, 151, .inl pG)), (opP, .inl (cI, 151, .inl pP)), (opQ, .inl (cI, 151, .inl pQ)), (okp, .inl (cI, 256, .inl kp)), (okS, .inl (cI, 4, .inl kS)), (okR, .inl (cI, 4, .inl kR)), (okP, .inl (cI, 4, .inl kP)), (okQ, .inl (cI, 4, .inl kQ)), (oli, .inl (cI, 1320, .inl li))]) ⟨hx, hb, hml, hown, hts⟩ (ct_M_isHit l dC dI cI cL cR oM obd opa opS opR opG opP opQ okp okS okR okP okQ oli mth mpl msd mrt mps mqt mmd bd pa pS pR pG pP pQ kp kS kR kP kQ li (1 - msd) ((a1 + a2) / 2) hy3003) mm_248 mm_249 mm_250 mm_247 mm_211 hd_M_isHit (by decide) qq_00 hP hD hK hS hA hT hN (q0 := 0) (ci := 5) rfl rfl [0, 1, 2, 3, 4, 5, 6, 7, 8, 9, 10, 11, 12, 13] [] [0, 1, 2, 3, 4, 5, 6, 7, 8, 9, 10, 11, 12, 13] rfl rfl rfl (by decide) rfl hl.1 rfl (Nat.le_of_ble_eq_true rfl) dd_M_castles_117 (fun H locs hP hD hS => ?_)
        refine W.eq (g2 := F0 m 120 ls [.int r3003]) rfl ?_
        refine lv_if_ne (tgt := 127) hx hb dd_M_castles_120 (by decide) (fun hc => ?_) (fun hc => ?_)
        · replace hf := qq_f hc hf
          exact hJ127  _ _ _ (lv_sub hl [] rfl) hP hD hS hf
        · replace hf := qq_t hc hf
          refine lv_iconst (v := 1) hx hb dd_M_castles_123 (by decide) ?_
          refine lv_goto (tgt := 128) hx hb dd_M_castles_124 (by decide) ?_
          exact hJ128 1 _ _ _ (lv_sub hl [] rfl) hP hD hS hf
  have hJ71 : ∀  (H : Heap) (locs : List Loc) (ls : Array Slot), lv_has ls 6 [] → va_P (dC, dI) classes [(oM, .inr (5, [.int mth, .int mpl, .ref obd, .int msd, .int mrt, .int mps, .int mqt, .int mmd, .ref opa, .ref opS, .ref opR, .ref opG, .ref opP, .ref opQ, .ref okp, .ref okS, .ref okR, .ref okP, .ref okQ, .ref oli])), (obd, .inl (cI, 64, .inl bd)), (opa, .inl (cI, 9664, .inl pa)), (opS, .inl (cI, 151, .inl pS)), (opR, .inl (cI, 151, .inl pR)), (opG, .inl (cI, 151, .inl pG)), (opP, .inl (cI, 151, .inl pP)), (opQ, .inl (cI, 151, .inl pQ)), (okp, .inl (cI, 256, .inl kp)), (okS, .inl (cI, 4, .inl kS)), (okR, .inl (cI, 4, .inl kR)), (okP, .inl (cI, 4, .inl kP)), (okQ, .inl (cI, 4, .inl kQ)), (oli, .inl (cI, 1320, .inl li))] H → va_D A [(oM, .inr (5, [.int mth, .int mpl, .ref obd, .int msd, .int mrt, .int mps, .int mqt, .int mmd, .ref opa, .ref opS, .ref opR, .ref opG, .ref opP, .ref opQ, .ref okp, .ref okS, .ref okR, .ref okP, .ref okQ, .ref oli])), (obd, .inl (cI, 64, .inl bd)), (opa, .inl (cI, 9664, .inl pa)), (opS, .inl (cI, 151, .inl pS)), (opR, .inl (cI, 151, .inl pR)), (opG, .inl (cI, 151, .inl pG)), (opP, .inl (cI, 151, .inl pP)), (opQ, .inl (cI, 151, .inl pQ)), (okp, .inl (cI, 256, .inl kp)), (okS, .inl (cI, 4, .inl kS)), (okR, .inl (cI, 4, .inl kR)), (okP, .inl (cI, 4, .inl kP)), (okQ, .inl (cI, 4, .inl kQ)), (oli, .inl (cI, 1320, .inl li))] → va_S A s.heap H locs → bk_M_castles_71 msd mrt bd a1 a2 = some rr → W p l e rm_M_castles s m ([.ref oM, .int a1, .int a2] : List Value).toArray below meth c H locs 0 0 Q (F0 m 71 ls []) := by
    intro  H locs ls hl hP hD hS hf
    rw [bk_M_castles_71] at hf
    refine lv_iconst (v := 0) hx hb dd_M_castles_71 (by decide) ?_
    cases hf
    exact qq_zret hx hb hr rfl hlocks hQ hP hD hK hS dd_M_castles_72
  have hJ61 : ∀ (x3 : Int32) (x4 : Int32) (x5 : Int32) (H : Heap) (locs : List Loc) (ls : Array Slot), lv_has ls 6 [(0, .ref oM), (1, .int a1), (2, .int a2), (3, .int x3), (4, .int x4), (5, .int x5)] → va_P (dC, dI) classes [(oM, .inr (5, [.int mth, .int mpl, .ref obd, .int msd, .int mrt, .int mps, .int mqt, .int mmd, .ref opa, .ref opS, .ref opR, .ref opG, .ref opP, .ref opQ, .ref okp, .ref okS, .ref okR, .ref okP, .ref okQ, .ref oli])), (obd, .inl (cI, 64, .inl bd)), (opa, .inl (cI, 9664, .inl pa)), (opS, .inl (cI, 151, .inl pS)), (opR, .inl (cI, 151, .inl pR)), (opG, .inl (cI, 151, .inl pG)), (opP, .inl (cI, 151, .inl pP)), (opQ, .inl (cI, 151, .inl pQ)), (okp, .inl (cI, 256, .inl kp)), (okS, .inl (cI, 4, .inl kS)), (okR, .inl (cI, 4, .inl kR)), (okP, .inl (cI, 4, .inl kP)), (okQ, .inl (cI, 4, .inl kQ)), (oli, .inl (cI, 1320, .inl li))] H → va_D A [(oM, .inr (5, [.int mth, .int mpl, .ref obd, .int msd, .int mrt, .int mps, .int mqt, .int mmd, .ref opa, .ref opS, .ref opR, .ref opG, .ref opP, .ref opQ, .ref okp, .ref okS, .ref okR, .ref okP, .ref okQ, .ref oli])), (obd, .inl (cI, 64, .inl bd)), (opa, .inl (cI, 9664, .inl pa)), (opS, .inl (cI, 151, .inl pS)), (opR, .inl (cI, 151, .inl pR)), (opG, .inl (cI, 151, .inl pG)), (opP, .inl (cI, 151, .inl pP)), (opQ, .inl (cI, 151, .inl pQ)), (okp, .inl (cI, 256, .inl kp)), (okS, .inl (cI, 4, .inl kS)), (okR, .inl (cI, 4, .inl kR)), (okP, .inl (cI, 4, .inl kP)), (okQ, .inl (cI, 4, .inl kQ)), (oli, .inl (cI, 1320, .inl li))] → va_S A s.heap H locs → bk_M_castles_61 msd mrt bd a1 a2 x3 x4 x5 = some rr → W p l e rm_M_castles s m ([.ref oM, .int a1, .int a2] : List Value).toArray below meth c H locs 0 0 Q (F0 m 61 ls []) := by
    intro x3 x4 x5 H locs ls hl hP hD hS hf
    rw [bk_M_castles_61] at hf
    refine lv_aload_n hx hb dd_M_castles_61 rfl (lv_at hl 0 rfl) ?_
    refine va_get (D := (dC, dI)) (ci := 5) (v := .int mrt) (C := RR_M) (T := FF_M) (N := 20) hx hb hts uu_M hown hK hP 0 rfl rfl 4 (by decide) (hts _ mm_255) (fun _ h9 => h9) rfl dd_M_castles_62 ?_
    refine lv_iload hx hb dd_M_castles_65 (lv_at hl 5 rfl) ?_
    refine lv_iand hx hb dd_M_castles_67 ?_
    refine lv_if_ne (tgt := 73) hx hb dd_M_castles_68 (by decide) (fun hc => ?_) (fun hc => ?_)
    · replace hf := qq_f hc hf
      refine lv_aload_n hx hb dd_M_castles_73 rfl (lv_at hl 0 rfl) ?_
      refine lv_iload_n hx hb dd_M_castles_74 rfl (lv_at hl 1 rfl) ?_
      refine lv_iload hx hb dd_M_castles_75 (lv_at hl 4 rfl) ?_
      refine lv_if_eq (tgt := 87) hx hb dd_M_castles_77 (by decide) (fun hc => ?_) (fun hc => ?_)
      · replace hf := qq_t hc hf
        refine lv_iload_n hx hb dd_M_castles_87 rfl (lv_at hl 3 rfl) ?_
        exact hJ88 a1 x3 _ _ _ (lv_sub hl [0, 1, 2] rfl) hP hD hS hf
      · replace hf := qq_f hc hf
        refine lv_iload_n hx hb dd_M_castles_80 rfl (lv_at hl 3 rfl) ?_
        refine lv_bipush (v := 7) hx hb dd_M_castles_81 (by decide) ?_
        refine lv_iadd hx hb dd_M_castles_83 ?_
        refine lv_goto (tgt := 88) hx hb dd_M_castles_84 (by decide) ?_
        exact hJ88 a1 (x3 + 7) _ _ _ (lv_sub hl [0, 1, 2] rfl) hP hD hS hf
    · replace hf := qq_t hc hf
      exact hJ71  _ _ _ (lv_sub hl [] rfl) hP hD hS hf
  have hJ33 : ∀ (x3 : Int32) (x4 : Int32) (s0 : Int32) (H : Heap) (locs : List Loc) (ls : Array Slot), lv_has ls 6 [(0, .ref oM), (1, .int a1), (2, .int a2), (3, .int x3), (4, .int x4)] → va_P (dC, dI) classes [(oM, .inr (5, [.int mth, .int mpl, .ref obd, .int msd, .int mrt, .int mps, .int mqt, .int mmd, .ref opa, .ref opS, .ref opR, .ref opG, .ref opP, .ref opQ, .ref okp, .ref okS, .ref okR, .ref okP, .ref okQ, .ref oli])), (obd, .inl (cI, 64, .inl bd)), (opa, .inl (cI, 9664, .inl pa)), (opS, .inl (cI, 151, .inl pS)), (opR, .inl (cI, 151, .inl pR)), (opG, .inl (cI, 151, .inl pG)), (opP, .inl (cI, 151, .inl pP)), (opQ, .inl (cI, 151, .inl pQ)), (okp, .inl (cI, 256, .inl kp)), (okS, .inl (cI, 4, .inl kS)), (okR, .inl (cI, 4, .inl kR)), (okP, .inl (cI, 4, .inl kP)), (okQ, .inl (cI, 4, .inl kQ)), (oli, .inl (cI, 1320, .inl li))] H → va_D A [(oM, .inr (5, [.int mth, .int mpl, .ref obd, .int msd, .int mrt, .int mps, .int mqt, .int mmd, .ref opa, .ref opS, .ref opR, .ref opG, .ref opP, .ref opQ, .ref okp, .ref okS, .ref okR, .ref okP, .ref okQ, .ref oli])), (obd, .inl (cI, 64, .inl bd)), (opa, .inl (cI, 9664, .inl pa)), (opS, .inl (cI, 151, .inl pS)), (opR, .inl (cI, 151, .inl pR)), (opG, .inl (cI, 151, .inl pG)), (opP, .inl (cI, 151, .inl pP)), (opQ, .inl (cI, 151, .inl pQ)), (okp, .inl (cI, 256, .inl kp)), (okS, .inl (cI, 4, .inl kS)), (okR, .inl (cI, 4, .inl kR)), (okP, .inl (cI, 4, .inl kP)), (okQ, .inl (cI, 4, .inl kQ)), (oli, .inl (cI, 1320, .inl li))] → va_S A s.heap H locs → bk_M_castles_33 msd mrt bd a1 a2 x3 x4 s0 = some rr → W p l e rm_M_castles s m ([.ref oM, .int a1, .int a2] : List Value).toArray below meth c H locs 0 0 Q (F0 m 33 ls [.int s0]) := by
    intro x3 x4 s0 H locs ls hl hP hD hS hf
    rw [bk_M_castles_33] at hf
    refine lv_iconst (v := 2) hx hb dd_M_castles_33 (by decide) ?_
    refine lv_aload_n hx hb dd_M_castles_34 rfl (lv_at hl 0 rfl) ?_
    refine va_get (D := (dC, dI)) (ci := 5) (v := .int msd) (C := RR_M) (T := FF_M) (N := 20) hx hb hts uu_M hown hK hP 0 rfl rfl 3 (by decide) (hts _ mm_228) (fun _ h9 => h9) rfl dd_M_castles_35 ?_
    refine lv_imul hx hb dd_M_castles_38 ?_
    refine lv_ishl hx hb dd_M_castles_39 ?_
    refine lv_topi (fun v6001 ev6001 => ?_)
    replace hf := qq_lt ev6001 hf
    refine lv_istore (lv' := [(5, .int v6001), (0, .ref oM), (1, .int a1), (2, .int a2), (3, .int x3), (4, .int x4)]) hx hb dd_M_castles_40 hl (by decide) rfl (fun ls hl => ?_)
    refine lv_iload_n hx hb dd_M_castles_42 rfl (lv_at hl 2 rfl) ?_
    refine lv_iload_n hx hb dd_M_castles_43 rfl (lv_at hl 4 rfl) ?_
    refine lv_iconst (v := 4) hx hb dd_M_castles_44 (by decide) ?_
    refine lv_iadd hx hb dd_M_castles_45 ?_
    refine lv_icmp_ne (tgt := 71) hx hb dd_M_castles_46 (by decide) (fun hc => ?_) (fun hc => ?_)
    · replace hf := qq_f hc hf
      exact hJ71  _ _ _ (lv_sub hl [] rfl) hP hD hS hf
    · replace hf := qq_t hc hf
      refine lv_iload hx hb dd_M_castles_49 (lv_at hl 5 rfl) ?_
      refine lv_if_ne (tgt := 61) hx hb dd_M_castles_51 (by decide) (fun hc => ?_) (fun hc => ?_)
      · replace hf := qq_f hc hf
        exact hJ61 x3 x4 v6001 _ _ _ (lv_sub hl [1, 2, 3, 4, 5, 0] rfl) hP hD hS hf
      · replace hf := qq_t hc hf
        refine lv_iload_n hx hb dd_M_castles_54 rfl (lv_at hl 3 rfl) ?_
        refine lv_iload_n hx hb dd_M_castles_55 rfl (lv_at hl 4 rfl) ?_
        refine lv_iconst (v := 2) hx hb dd_M_castles_56 (by decide) ?_
        refine lv_iadd hx hb dd_M_castles_57 ?_
        refine lv_icmp_ne (tgt := 71) hx hb dd_M_castles_58 (by decide) (fun hc => ?_) (fun hc => ?_)
        · replace hf := qq_f hc hf
          exact hJ71  _ _ _ (lv_sub hl [] rfl) hP hD hS hf
        · replace hf := qq_t hc hf
          exact hJ61 x3 x4 v6001 _ _ _ (lv_sub hl [1, 2, 3, 4, 5, 0] rfl) hP hD hS hf
  have hJ21 : ∀ (x3 : Int32) (s0 : Int32) (H : Heap) (locs : List Loc) (ls : Array Slot), lv_has ls 6 [(0, .ref oM), (1, .int a1), (2, .int a2), (3, .int x3)] → va_P (dC, dI) classes [(oM, .inr (5, [.int mth, .int mpl, .ref obd, .int msd, .int mrt, .int mps, .int mqt, .int mmd, .ref opa, .ref opS, .ref opR, .ref opG, .ref opP, .ref opQ, .ref okp, .ref okS, .ref okR, .ref okP, .ref okQ, .ref oli])), (obd, .inl (cI, 64, .inl bd)), (opa, .inl (cI, 9664, .inl pa)), (opS, .inl (cI, 151, .inl pS)), (opR, .inl (cI, 151, .inl pR)), (opG, .inl (cI, 151, .inl pG)), (opP, .inl (cI, 151, .inl pP)), (opQ, .inl (cI, 151, .inl pQ)), (okp, .inl (cI, 256, .inl kp)), (okS, .inl (cI, 4, .inl kS)), (okR, .inl (cI, 4, .inl kR)), (okP, .inl (cI, 4, .inl kP)), (okQ, .inl (cI, 4, .inl kQ)), (oli, .inl (cI, 1320, .inl li))] H → va_D A [(oM, .inr (5, [.int mth, .int mpl, .ref obd, .int msd, .int mrt, .int mps, .int mqt, .int mmd, .ref opa, .ref opS, .ref opR, .ref opG, .ref opP, .ref opQ, .ref okp, .ref okS, .ref okR, .ref okP, .ref okQ, .ref oli])), (obd, .inl (cI, 64, .inl bd)), (opa, .inl (cI, 9664, .inl pa)), (opS, .inl (cI, 151, .inl pS)), (opR, .inl (cI, 151, .inl pR)), (opG, .inl (cI, 151, .inl pG)), (opP, .inl (cI, 151, .inl pP)), (opQ, .inl (cI, 151, .inl pQ)), (okp, .inl (cI, 256, .inl kp)), (okS, .inl (cI, 4, .inl kS)), (okR, .inl (cI, 4, .inl kR)), (okP, .inl (cI, 4, .inl kP)), (okQ, .inl (cI, 4, .inl kQ)), (oli, .inl (cI, 1320, .inl li))] → va_S A s.heap H locs → bk_M_castles_21 msd mrt bd a1 a2 x3 s0 = some rr → W p l e rm_M_castles s m ([.ref oM, .int a1, .int a2] : List Value).toArray below meth c H locs 0 0 Q (F0 m 21 ls [.int s0]) := by
    intro x3 s0 H locs ls hl hP hD hS hf
    rw [bk_M_castles_21] at hf
    refine lv_istore (lv' := [(4, .int s0), (0, .ref oM), (1, .int a1), (2, .int a2), (3, .int x3)]) hx hb dd_M_castles_21 hl (by decide) rfl (fun ls hl => ?_)
    refine lv_iload hx hb dd_M_castles_23 (lv_at hl 0 rfl) ?_
    refine lv_if_eq (tgt := 32) hx hb dd_M_castles_25 (by decide) (fun hc => ?_) (fun hc => ?_)
    · replace hf := qq_t hc hf
      refine lv_iconst (v := 2) hx hb dd_M_castles_32 (by decide) ?_
      exact hJ33 x3 s0 2 _ _ _ (lv_sub hl [1, 2, 3, 4, 0] rfl) hP hD hS hf
    · replace hf := qq_f hc hf
      refine lv_iconst (v := 1) hx hb dd_M_castles_28 (by decide) ?_
      refine lv_goto (tgt := 33) hx hb dd_M_castles_29 (by decide) ?_
      exact hJ33 x3 s0 1 _ _ _ (lv_sub hl [1, 2, 3, 4, 0] rfl) hP hD hS hf
  rw [fn_M_castles] at hf
  refine lv_bipush (v := 56) hx hb dd_M_castles_0 (by decide) ?_
  refine lv_aload_n hx hb dd_M_castles_2 rfl (lv_at hl 0 rfl) ?_
  refine va_get (D := (dC, dI)) (ci := 5) (v := .int msd) (C := RR_M) (T := FF_M) (N := 20) hx hb hts uu_M hown hK hP 0 rfl rfl 3 (by decide) (hts _ mm_228) (fun _ h9 => h9) rfl dd_M_castles_3 ?_
  refine lv_imul hx hb dd_M_castles_6 ?_
  refine lv_topi (fun v1 ev1 => ?_)
  replace hf := qq_lt ev1 hf
  refine lv_istore_n (lv' := [(3, .int v1), (0, .ref oM), (1, .int a1), (2, .int a2)]) hx hb dd_M_castles_7 rfl hl (by decide) rfl (fun ls hl => ?_)
  refine lv_iload_n hx hb dd_M_castles_8 rfl (lv_at hl 3 rfl) ?_
  refine lv_iload_n hx hb dd_M_castles_9 rfl (lv_at hl 0 rfl) ?_
  refine lv_bipush (v := 6) hx hb dd_M_castles_10 (by decide) ?_
  refine lv_iadd hx hb dd_M_castles_12 ?_
  refine lv_icmp_ne (tgt := 20) hx hb dd_M_castles_13 (by decide) (fun hc => ?_) (fun hc => ?_)
  · replace hf := qq_f hc hf
    refine lv_iconst (v := 0) hx hb dd_M_castles_20 (by decide) ?_
    exact hJ21 v1 0 _ _ _ (lv_sub hl [1, 2, 3, 0] rfl) hP hD hS hf
  · replace hf := qq_t hc hf
    refine lv_iconst (v := 1) hx hb dd_M_castles_16 (by decide) ?_
    refine lv_goto (tgt := 21) hx hb dd_M_castles_17 (by decide) ?_
    exact hJ21 v1 1 _ _ _ (lv_sub hl [1, 2, 3, 0] rfl) hP hD hS hf
