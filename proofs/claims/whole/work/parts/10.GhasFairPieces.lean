theorem dd_G_hasFairPieces_0 : decode bb_G_hasFairPieces 0 = .ok (.iconst 0, 1) := by decide +kernel
theorem dd_G_hasFairPieces_1 : decode bb_G_hasFairPieces 1 = .ok (.istore_n 2, 1) := by decide +kernel
theorem dd_G_hasFairPieces_2 : decode bb_G_hasFairPieces 2 = .ok (.iconst 0, 1) := by decide +kernel
theorem dd_G_hasFairPieces_3 : decode bb_G_hasFairPieces 3 = .ok (.istore_n 3, 1) := by decide +kernel
theorem dd_G_hasFairPieces_4 : decode bb_G_hasFairPieces 4 = .ok (.iconst 0, 1) := by decide +kernel
theorem dd_G_hasFairPieces_5 : decode bb_G_hasFairPieces 5 = .ok (.istore 4, 2) := by decide +kernel
theorem dd_G_hasFairPieces_7 : decode bb_G_hasFairPieces 7 = .ok (.iload 4, 2) := by decide +kernel
theorem dd_G_hasFairPieces_9 : decode bb_G_hasFairPieces 9 = .ok (.bipush 64, 2) := by decide +kernel
theorem dd_G_hasFairPieces_11 : decode bb_G_hasFairPieces 11 = .ok (.if_icmp .ge 72, 3) := by decide +kernel
theorem dd_G_hasFairPieces_14 : decode bb_G_hasFairPieces 14 = .ok (.aload_n 0, 1) := by decide +kernel
theorem dd_G_hasFairPieces_15 : decode bb_G_hasFairPieces 15 = .ok (.iload 4, 2) := by decide +kernel
theorem dd_G_hasFairPieces_17 : decode bb_G_hasFairPieces 17 = .ok (.iaload, 1) := by decide +kernel
theorem dd_G_hasFairPieces_18 : decode bb_G_hasFairPieces 18 = .ok (.bipush 6, 2) := by decide +kernel
theorem dd_G_hasFairPieces_20 : decode bb_G_hasFairPieces 20 = .ok (.iload_n 1, 1) := by decide +kernel
theorem dd_G_hasFairPieces_21 : decode bb_G_hasFairPieces 21 = .ok (.imul, 1) := by decide +kernel
theorem dd_G_hasFairPieces_22 : decode bb_G_hasFairPieces 22 = .ok (.isub, 1) := by decide +kernel
theorem dd_G_hasFairPieces_23 : decode bb_G_hasFairPieces 23 = .ok (.istore 5, 2) := by decide +kernel
theorem dd_G_hasFairPieces_25 : decode bb_G_hasFairPieces 25 = .ok (.iload 5, 2) := by decide +kernel
theorem dd_G_hasFairPieces_27 : decode bb_G_hasFairPieces 27 = .ok (.iconst 1, 1) := by decide +kernel
theorem dd_G_hasFairPieces_28 : decode bb_G_hasFairPieces 28 = .ok (.if_icmp .lt 13, 3) := by decide +kernel
theorem dd_G_hasFairPieces_31 : decode bb_G_hasFairPieces 31 = .ok (.iload 5, 2) := by decide +kernel
theorem dd_G_hasFairPieces_33 : decode bb_G_hasFairPieces 33 = .ok (.bipush 6, 2) := by decide +kernel
theorem dd_G_hasFairPieces_35 : decode bb_G_hasFairPieces 35 = .ok (.if_icmp .gt 6, 3) := by decide +kernel
theorem dd_G_hasFairPieces_38 : decode bb_G_hasFairPieces 38 = .ok (.iinc 2 1, 3) := by decide +kernel
theorem dd_G_hasFairPieces_41 : decode bb_G_hasFairPieces 41 = .ok (.iload 5, 2) := by decide +kernel
theorem dd_G_hasFairPieces_43 : decode bb_G_hasFairPieces 43 = .ok (.bipush 6, 2) := by decide +kernel
theorem dd_G_hasFairPieces_45 : decode bb_G_hasFairPieces 45 = .ok (.if_icmp .ne 6, 3) := by decide +kernel
theorem dd_G_hasFairPieces_48 : decode bb_G_hasFairPieces 48 = .ok (.iinc 3 1, 3) := by decide +kernel
theorem dd_G_hasFairPieces_51 : decode bb_G_hasFairPieces 51 = .ok (.iload 5, 2) := by decide +kernel
theorem dd_G_hasFairPieces_53 : decode bb_G_hasFairPieces 53 = .ok (.iconst 1, 1) := by decide +kernel
theorem dd_G_hasFairPieces_54 : decode bb_G_hasFairPieces 54 = .ok (.if_icmp .ne 23, 3) := by decide +kernel
theorem dd_G_hasFairPieces_57 : decode bb_G_hasFairPieces 57 = .ok (.iload 4, 2) := by decide +kernel
theorem dd_G_hasFairPieces_59 : decode bb_G_hasFairPieces 59 = .ok (.bipush 8, 2) := by decide +kernel
theorem dd_G_hasFairPieces_61 : decode bb_G_hasFairPieces 61 = .ok (.idiv, 1) := by decide +kernel
theorem dd_G_hasFairPieces_62 : decode bb_G_hasFairPieces 62 = .ok (.ifCond .eq 13, 3) := by decide +kernel
theorem dd_G_hasFairPieces_65 : decode bb_G_hasFairPieces 65 = .ok (.iload 4, 2) := by decide +kernel
theorem dd_G_hasFairPieces_67 : decode bb_G_hasFairPieces 67 = .ok (.bipush 8, 2) := by decide +kernel
theorem dd_G_hasFairPieces_69 : decode bb_G_hasFairPieces 69 = .ok (.idiv, 1) := by decide +kernel
theorem dd_G_hasFairPieces_70 : decode bb_G_hasFairPieces 70 = .ok (.bipush 7, 2) := by decide +kernel
theorem dd_G_hasFairPieces_72 : decode bb_G_hasFairPieces 72 = .ok (.if_icmp .ne 5, 3) := by decide +kernel
theorem dd_G_hasFairPieces_75 : decode bb_G_hasFairPieces 75 = .ok (.iconst 0, 1) := by decide +kernel
theorem dd_G_hasFairPieces_76 : decode bb_G_hasFairPieces 76 = .ok (.ireturn, 1) := by decide +kernel
theorem dd_G_hasFairPieces_77 : decode bb_G_hasFairPieces 77 = .ok (.iinc 4 1, 3) := by decide +kernel
theorem dd_G_hasFairPieces_80 : decode bb_G_hasFairPieces 80 = .ok (.goto (-73), 3) := by decide +kernel
theorem dd_G_hasFairPieces_83 : decode bb_G_hasFairPieces 83 = .ok (.iload_n 3, 1) := by decide +kernel
theorem dd_G_hasFairPieces_84 : decode bb_G_hasFairPieces 84 = .ok (.iconst 1, 1) := by decide +kernel
theorem dd_G_hasFairPieces_85 : decode bb_G_hasFairPieces 85 = .ok (.if_icmp .ne 13, 3) := by decide +kernel
theorem dd_G_hasFairPieces_88 : decode bb_G_hasFairPieces 88 = .ok (.iload_n 2, 1) := by decide +kernel
theorem dd_G_hasFairPieces_89 : decode bb_G_hasFairPieces 89 = .ok (.bipush 16, 2) := by decide +kernel
theorem dd_G_hasFairPieces_91 : decode bb_G_hasFairPieces 91 = .ok (.if_icmp .gt 7, 3) := by decide +kernel
theorem dd_G_hasFairPieces_94 : decode bb_G_hasFairPieces 94 = .ok (.iconst 1, 1) := by decide +kernel
theorem dd_G_hasFairPieces_95 : decode bb_G_hasFairPieces 95 = .ok (.goto 4, 3) := by decide +kernel
theorem dd_G_hasFairPieces_98 : decode bb_G_hasFairPieces 98 = .ok (.iconst 0, 1) := by decide +kernel
theorem dd_G_hasFairPieces_99 : decode bb_G_hasFairPieces 99 = .ok (.ireturn, 1) := by decide +kernel
abbrev ty_G_hasFairPieces : Type := Int32
noncomputable def bk_G_hasFairPieces_99 (ar : Nat → Int32) (a1 : Int32) (s0 : Int32) : Option ty_G_hasFairPieces := qq_ck (qq_b s0) <| some s0
noncomputable def bk_G_hasFairPieces_98 (ar : Nat → Int32) (a1 : Int32) : Option ty_G_hasFairPieces := bk_G_hasFairPieces_99 ar a1 0
noncomputable def bk_G_hasFairPieces_77 (ar : Nat → Int32) (a1 : Int32) (k7 : Int32 → Int32 → Int32 → Option ty_G_hasFairPieces) (x2 : Int32) (x3 : Int32) (x4 : Int32) : Option ty_G_hasFairPieces := qq_let (x4 + 1) fun v3001 => k7 x2 x3 v3001
noncomputable def bk_G_hasFairPieces_75 (ar : Nat → Int32) (a1 : Int32) : Option ty_G_hasFairPieces := some (0 : Int32)
noncomputable def bk_G_hasFairPieces_51 (ar : Nat → Int32) (a1 : Int32) (k7 : Int32 → Int32 → Int32 → Option ty_G_hasFairPieces) (x2 : Int32) (x3 : Int32) (x4 : Int32) (x5 : Int32) : Option ty_G_hasFairPieces := if x5 = 1 then (if (x4 / 8) = 0 then (bk_G_hasFairPieces_75 ar a1) else (if (x4 / 8) = 7 then (bk_G_hasFairPieces_75 ar a1) else (bk_G_hasFairPieces_77 ar a1 k7 x2 x3 x4))) else (bk_G_hasFairPieces_77 ar a1 k7 x2 x3 x4)
noncomputable def bk_G_hasFairPieces_41 (ar : Nat → Int32) (a1 : Int32) (k7 : Int32 → Int32 → Int32 → Option ty_G_hasFairPieces) (x2 : Int32) (x3 : Int32) (x4 : Int32) (x5 : Int32) : Option ty_G_hasFairPieces := if x5 = 6 then (qq_let (x3 + 1) fun v6001 => bk_G_hasFairPieces_51 ar a1 k7 x2 v6001 x4 x5) else (bk_G_hasFairPieces_51 ar a1 k7 x2 x3 x4 x5)
noncomputable def lo_G_hasFairPieces_7 (ar : Nat → Int32) (a1 : Int32) : Nat → Int32 → Int32 → Int32 → Option ty_G_hasFairPieces
  | 0, _, _, _ => none
  | n + 1, x2, x3, x4 => if 64 ≤ x4 then (if x3 = 1 then (if 16 < x2 then (bk_G_hasFairPieces_98 ar a1) else (bk_G_hasFairPieces_99 ar a1 1)) else (bk_G_hasFairPieces_98 ar a1)) else (qq_ck (qq_in x4 64) <| qq_let ((ar x4.toNatClampNeg) - (6 * a1)) fun v7002 => if v7002 < 1 then (bk_G_hasFairPieces_41 ar a1 (lo_G_hasFairPieces_7 ar a1 n) x2 x3 x4 v7002) else (if 6 < v7002 then (bk_G_hasFairPieces_41 ar a1 (lo_G_hasFairPieces_7 ar a1 n) x2 x3 x4 v7002) else (qq_let (x2 + 1) fun v7003 => bk_G_hasFairPieces_41 ar a1 (lo_G_hasFairPieces_7 ar a1 n) v7003 x3 x4 v7002)))
theorem lo_G_hasFairPieces_7_z (ar : Nat → Int32) (a1 : Int32) (x2 : Int32) (x3 : Int32) (x4 : Int32) : lo_G_hasFairPieces_7 ar a1 0 x2 x3 x4 = none := rfl
theorem lo_G_hasFairPieces_7_s (ar : Nat → Int32) (a1 : Int32) (x2 : Int32) (x3 : Int32) (x4 : Int32) (n : Nat) : lo_G_hasFairPieces_7 ar a1 (n + 1) x2 x3 x4 = (if 64 ≤ x4 then (if x3 = 1 then (if 16 < x2 then (bk_G_hasFairPieces_98 ar a1) else (bk_G_hasFairPieces_99 ar a1 1)) else (bk_G_hasFairPieces_98 ar a1)) else (qq_ck (qq_in x4 64) <| qq_let ((ar x4.toNatClampNeg) - (6 * a1)) fun v7002 => if v7002 < 1 then (bk_G_hasFairPieces_41 ar a1 (lo_G_hasFairPieces_7 ar a1 n) x2 x3 x4 v7002) else (if 6 < v7002 then (bk_G_hasFairPieces_41 ar a1 (lo_G_hasFairPieces_7 ar a1 n) x2 x3 x4 v7002) else (qq_let (x2 + 1) fun v7003 => bk_G_hasFairPieces_41 ar a1 (lo_G_hasFairPieces_7 ar a1 n) v7003 x3 x4 v7002)))) := rfl
noncomputable def fn_G_hasFairPieces (ar : Nat → Int32) (a1 : Int32) : Option ty_G_hasFairPieces := lo_G_hasFairPieces_7 ar a1 qq_FU 0 0 0
abbrev rm_G_hasFairPieces : Room := { frames := 0, cells := 0, slots := 0, locals := 0 }
set_option maxHeartbeats 4000000 in
set_option maxRecDepth 100000 in
theorem ct_G_hasFairPieces (l : Launch) (dC : Nat → ClassId) (dI : Nat → Nat → Nat) (cI cL cR : ClassId) (oar : Nat) (ar : Nat → Int32) (a1 : Int32) {rr : Int32} (hf : fn_G_hasFairPieces ar a1 = some rr) : qq_det l yy_G_hasFairPieces (ww_of yy_G_hasFairPieces bb_G_hasFairPieces 6 (some .boolean)) rm_G_hasFairPieces (dC, dI) (qq_ty cI cL cR) [.ref oar, .int a1] [(oar, .inl (cI, 64, .inl ar))] (some (.int rr)) [(oar, .inl (cI, 64, .inl ar))] := by
  refine qq_of (own := RR_G) (by decide) rfl (Nat.le_of_ble_eq_true rfl) ?_
  intro p e s m below meth c A Q ls hx hb hml hr hlocks hown hts hK hA hT hN hP hD hS hl hQ
  have hl : lv_has ls 6 [(0, .ref oar), (1, .int a1)] := hl
  have hJ99 : ∀ (s0 : Int32) (H : Heap) (locs : List Loc) (ls : Array Slot), lv_has ls 6 [] → va_P (dC, dI) classes [(oar, .inl (cI, 64, .inl ar))] H → va_D A [(oar, .inl (cI, 64, .inl ar))] → va_S A s.heap H locs → bk_G_hasFairPieces_99 ar a1 s0 = some rr → W p l e rm_G_hasFairPieces s m ([.ref oar, .int a1] : List Value).toArray below meth c H locs 0 0 Q (F0 m 99 ls [.int s0]) := by
    intro s0 H locs ls hl hP hD hS hf
    rw [bk_G_hasFairPieces_99] at hf
    obtain ⟨hzb, hf⟩ := qq_ckE hf
    cases hf
    exact qq_zret hx hb hr (qq_bE hzb) hlocks hQ hP hD hK hS dd_G_hasFairPieces_99
  have hJ98 : ∀  (H : Heap) (locs : List Loc) (ls : Array Slot), lv_has ls 6 [] → va_P (dC, dI) classes [(oar, .inl (cI, 64, .inl ar))] H → va_D A [(oar, .inl (cI, 64, .inl ar))] → va_S A s.heap H locs → bk_G_hasFairPieces_98 ar a1 = some rr → W p l e rm_G_hasFairPieces s m ([.ref oar, .int a1] : List Value).toArray below meth c H locs 0 0 Q (F0 m 98 ls []) := by
    intro  H locs ls hl hP hD hS hf
    rw [bk_G_hasFairPieces_98] at hf
    refine lv_iconst (v := 0) hx hb dd_G_hasFairPieces_98 (by decide) ?_
    exact hJ99 0 _ _ _ (lv_sub hl [] rfl) hP hD hS hf
  have hJ75 : ∀  (H : Heap) (locs : List Loc) (ls : Array Slot), lv_has ls 6 [] → va_P (dC, dI) classes [(oar, .inl (cI, 64, .inl ar))] H → va_D A [(oar, .inl (cI, 64, .inl ar))] → va_S A s.heap H locs → bk_G_hasFairPieces_75 ar a1 = some rr → W p l e rm_G_hasFairPieces s m ([.ref oar, .int a1] : List Value).toArray below meth c H locs 0 0 Q (F0 m 75 ls []) := by
    intro  H locs ls hl hP hD hS hf
    rw [bk_G_hasFairPieces_75] at hf
    refine lv_iconst (v := 0) hx hb dd_G_hasFairPieces_75 (by decide) ?_
    cases hf
    exact qq_zret hx hb hr rfl hlocks hQ hP hD hK hS dd_G_hasFairPieces_76
  have hL7 : ∀ (n7 : Nat) (x2 : Int32) (x3 : Int32) (x4 : Int32) (H : Heap) (locs : List Loc) (ls : Array Slot), lv_has ls 6 [(0, .ref oar), (1, .int a1), (2, .int x2), (3, .int x3), (4, .int x4)] → va_P (dC, dI) classes [(oar, .inl (cI, 64, .inl ar))] H → va_D A [(oar, .inl (cI, 64, .inl ar))] → va_S A s.heap H locs → lo_G_hasFairPieces_7 ar a1 n7 x2 x3 x4 = some rr → W p l e rm_G_hasFairPieces s m ([.ref oar, .int a1] : List Value).toArray below meth c H locs 0 0 Q (F0 m 7 ls []) := by
    intro n7
    induction n7 with
    | zero => exact fun x2 x3 x4 H locs ls hl hP hD hS hf => absurd hf (by rw [lo_G_hasFairPieces_7_z]; exact fun h => by cases h)
    | succ n7 ih7 =>
      have hJ77 : ∀ (x2 : Int32) (x3 : Int32) (x4 : Int32) (H : Heap) (locs : List Loc) (ls : Array Slot), lv_has ls 6 [(0, .ref oar), (1, .int a1), (2, .int x2), (3, .int x3), (4, .int x4)] → va_P (dC, dI) classes [(oar, .inl (cI, 64, .inl ar))] H → va_D A [(oar, .inl (cI, 64, .inl ar))] → va_S A s.heap H locs → bk_G_hasFairPieces_77 ar a1 (lo_G_hasFairPieces_7 ar a1 n7) x2 x3 x4 = some rr → W p l e rm_G_hasFairPieces s m ([.ref oar, .int a1] : List Value).toArray below meth c H locs 0 0 Q (F0 m 77 ls []) := by
        intro x2 x3 x4 H locs ls hl hP hD hS hf
        rw [bk_G_hasFairPieces_77] at hf
        obtain ⟨v3001, ev3001⟩ : ∃ z, z = x4 + 1 := ⟨_, rfl⟩
        replace hf := qq_lt ev3001 hf
        refine lv_iinc (k := 4) (v := v3001) (lv' := [(4, .int v3001), (0, .ref oar), (1, .int a1), (2, .int x2), (3, .int x3)]) hx hb dd_G_hasFairPieces_77 hl rfl (by rw [ev3001]; exact congrArg _ (by decide)) (by decide) rfl (fun ls hl => ?_)
        refine lv_goto (tgt := 7) hx hb dd_G_hasFairPieces_80 (by decide) ?_
        exact ih7 x2 x3 v3001 _ _ _ (lv_sub hl [1, 2, 3, 4, 0] rfl) hP hD hS hf
      have hJ51 : ∀ (x2 : Int32) (x3 : Int32) (x4 : Int32) (x5 : Int32) (H : Heap) (locs : List Loc) (ls : Array Slot), lv_has ls 6 [(0, .ref oar), (1, .int a1), (2, .int x2), (3, .int x3), (4, .int x4), (5, .int x5)] → va_P (dC, dI) classes [(oar, .inl (cI, 64, .inl ar))] H → va_D A [(oar, .inl (cI, 64, .inl ar))] → va_S A s.heap H locs → bk_G_hasFairPieces_51 ar a1 (lo_G_hasFairPieces_7 ar a1 n7) x2 x3 x4 x5 = some rr → W p l e rm_G_hasFairPieces s m ([.ref oar, .int a1] : List Value).toArray below meth c H locs 0 0 Q (F0 m 51 ls []) := by
        intro x2 x3 x4 x5 H locs ls hl hP hD hS hf
        rw [bk_G_hasFairPieces_51] at hf
        refine lv_iload hx hb dd_G_hasFairPieces_51 (lv_at hl 5 rfl) ?_
        refine lv_iconst (v := 1) hx hb dd_G_hasFairPieces_53 (by decide) ?_
        refine lv_icmp_ne (tgt := 77) hx hb dd_G_hasFairPieces_54 (by decide) (fun hc => ?_) (fun hc => ?_)
        · replace hf := qq_f hc hf
          exact hJ77 x2 x3 x4 _ _ _ (lv_sub hl [0, 1, 2, 3, 4] rfl) hP hD hS hf
        · replace hf := qq_t hc hf
          refine lv_iload hx hb dd_G_hasFairPieces_57 (lv_at hl 4 rfl) ?_
          refine lv_bipush (v := 8) hx hb dd_G_hasFairPieces_59 (by decide) ?_
          refine lv_idiv hx hb dd_G_hasFairPieces_61 (by decide) ?_
          refine lv_if_eq (tgt := 75) hx hb dd_G_hasFairPieces_62 (by decide) (fun hc => ?_) (fun hc => ?_)
          · replace hf := qq_t hc hf
            exact hJ75  _ _ _ (lv_sub hl [] rfl) hP hD hS hf
          · replace hf := qq_f hc hf
            refine lv_iload hx hb dd_G_hasFairPieces_65 (lv_at hl 4 rfl) ?_
            refine lv_bipush (v := 8) hx hb dd_G_hasFairPieces_67 (by decide) ?_
            refine lv_idiv hx hb dd_G_hasFairPieces_69 (by decide) ?_
            refine lv_bipush (v := 7) hx hb dd_G_hasFairPieces_70 (by decide) ?_
            refine lv_icmp_ne (tgt := 77) hx hb dd_G_hasFairPieces_72 (by decide) (fun hc => ?_) (fun hc => ?_)
            · replace hf := qq_f hc hf
              exact hJ77 x2 x3 x4 _ _ _ (lv_sub hl [0, 1, 2, 3, 4] rfl) hP hD hS hf
            · replace hf := qq_t hc hf
              exact hJ75  _ _ _ (lv_sub hl [] rfl) hP hD hS hf
      have hJ41 : ∀ (x2 : Int32) (x3 : Int32) (x4 : Int32) (x5 : Int32) (H : Heap) (locs : List Loc) (ls : Array Slot), lv_has ls 6 [(0, .ref oar), (1, .int a1), (2, .int x2), (3, .int x3), (4, .int x4), (5, .int x5)] → va_P (dC, dI) classes [(oar, .inl (cI, 64, .inl ar))] H → va_D A [(oar, .inl (cI, 64, .inl ar))] → va_S A s.heap H locs → bk_G_hasFairPieces_41 ar a1 (lo_G_hasFairPieces_7 ar a1 n7) x2 x3 x4 x5 = some rr → W p l e rm_G_hasFairPieces s m ([.ref oar, .int a1] : List Value).toArray below meth c H locs 0 0 Q (F0 m 41 ls []) := by
        intro x2 x3 x4 x5 H locs ls hl hP hD hS hf
        rw [bk_G_hasFairPieces_41] at hf
        refine lv_iload hx hb dd_G_hasFairPieces_41 (lv_at hl 5 rfl) ?_
        refine lv_bipush (v := 6) hx hb dd_G_hasFairPieces_43 (by decide) ?_
        refine lv_icmp_ne (tgt := 51) hx hb dd_G_hasFairPieces_45 (by decide) (fun hc => ?_) (fun hc => ?_)
        · replace hf := qq_f hc hf
          exact hJ51 x2 x3 x4 x5 _ _ _ (lv_sub hl [0, 1, 2, 3, 4, 5] rfl) hP hD hS hf
        · replace hf := qq_t hc hf
          obtain ⟨v6001, ev6001⟩ : ∃ z, z = x3 + 1 := ⟨_, rfl⟩
          replace hf := qq_lt ev6001 hf
          refine lv_iinc (k := 3) (v := v6001) (lv' := [(3, .int v6001), (0, .ref oar), (1, .int a1), (2, .int x2), (4, .int x4), (5, .int x5)]) hx hb dd_G_hasFairPieces_48 hl rfl (by rw [ev6001]; exact congrArg _ (by decide)) (by decide) rfl (fun ls hl => ?_)
          exact hJ51 x2 v6001 x4 x5 _ _ _ (lv_sub hl [1, 2, 3, 0, 4, 5] rfl) hP hD hS hf
      intro x2 x3 x4 H locs ls hl hP hD hS hf
      rw [lo_G_hasFairPieces_7_s] at hf
      refine lv_iload hx hb dd_G_hasFairPieces_7 (lv_at hl 4 rfl) ?_
      refine lv_bipush (v := 64) hx hb dd_G_hasFairPieces_9 (by decide) ?_
      refine lv_icmp_ge (tgt := 83) hx hb dd_G_hasFairPieces_11 (by decide) (fun hc => ?_) (fun hc => ?_)
      · replace hf := qq_t hc hf
        refine lv_iload_n hx hb dd_G_hasFairPieces_83 rfl (lv_at hl 3 rfl) ?_
        refine lv_iconst (v := 1) hx hb dd_G_hasFairPieces_84 (by decide) ?_
        refine lv_icmp_ne (tgt := 98) hx hb dd_G_hasFairPieces_85 (by decide) (fun hc => ?_) (fun hc => ?_)
        · replace hf := qq_f hc hf
          exact hJ98  _ _ _ (lv_sub hl [] rfl) hP hD hS hf
        · replace hf := qq_t hc hf
          refine lv_iload_n hx hb dd_G_hasFairPieces_88 rfl (lv_at hl 2 rfl) ?_
          refine lv_bipush (v := 16) hx hb dd_G_hasFairPieces_89 (by decide) ?_
          refine lv_icmp_gt (tgt := 98) hx hb dd_G_hasFairPieces_91 (by decide) (fun hc => ?_) (fun hc => ?_)
          · replace hf := qq_t hc hf
            exact hJ98  _ _ _ (lv_sub hl [] rfl) hP hD hS hf
          · replace hf := qq_f hc hf
            refine lv_iconst (v := 1) hx hb dd_G_hasFairPieces_94 (by decide) ?_
            refine lv_goto (tgt := 99) hx hb dd_G_hasFairPieces_95 (by decide) ?_
            exact hJ99 1 _ _ _ (lv_sub hl [] rfl) hP hD hS hf
      · replace hf := qq_f hc hf
        refine lv_aload_n hx hb dd_G_hasFairPieces_14 rfl (lv_at hl 0 rfl) ?_
        refine lv_iload hx hb dd_G_hasFairPieces_15 (lv_at hl 4 rfl) ?_
        obtain ⟨hi7001, hf⟩ := qq_ckE hf
        refine va_iald (D := (dC, dI)) (f := ar) (n := 64) (cA := cI) hx hb hK hP 0 0 rfl rfl (qq_inE hi7001) dd_G_hasFairPieces_17 ?_
        refine lv_bipush (v := 6) hx hb dd_G_hasFairPieces_18 (by decide) ?_
        refine lv_iload_n hx hb dd_G_hasFairPieces_20 rfl (lv_at hl 1 rfl) ?_
        refine lv_imul hx hb dd_G_hasFairPieces_21 ?_
        refine lv_isub hx hb dd_G_hasFairPieces_22 ?_
        refine lv_topi (fun v7002 ev7002 => ?_)
        replace hf := qq_lt ev7002 hf
        refine lv_istore (lv' := [(5, .int v7002), (0, .ref oar), (1, .int a1), (2, .int x2), (3, .int x3), (4, .int x4)]) hx hb dd_G_hasFairPieces_23 hl (by decide) rfl (fun ls hl => ?_)
        refine lv_iload hx hb dd_G_hasFairPieces_25 (lv_at hl 0 rfl) ?_
        refine lv_iconst (v := 1) hx hb dd_G_hasFairPieces_27 (by decide) ?_
        refine lv_icmp_lt (tgt := 41) hx hb dd_G_hasFairPieces_28 (by decide) (fun hc => ?_) (fun hc => ?_)
        · replace hf := qq_t hc hf
          exact hJ41 x2 x3 x4 v7002 _ _ _ (lv_sub hl [1, 2, 3, 4, 5, 0] rfl) hP hD hS hf
        · replace hf := qq_f hc hf
          refine lv_iload hx hb dd_G_hasFairPieces_31 (lv_at hl 0 rfl) ?_
          refine lv_bipush (v := 6) hx hb dd_G_hasFairPieces_33 (by decide) ?_
          refine lv_icmp_gt (tgt := 41) hx hb dd_G_hasFairPieces_35 (by decide) (fun hc => ?_) (fun hc => ?_)
          · replace hf := qq_t hc hf
            exact hJ41 x2 x3 x4 v7002 _ _ _ (lv_sub hl [1, 2, 3, 4, 5, 0] rfl) hP hD hS hf
          · replace hf := qq_f hc hf
            obtain ⟨v7003, ev7003⟩ : ∃ z, z = x2 + 1 := ⟨_, rfl⟩
            replace hf := qq_lt ev7003 hf
            refine lv_iinc (k := 3) (v := v7003) (lv' := [(2, .int v7003), (5, .int v7002), (0, .ref oar), (1, .int a1), (3, .int x3), (4, .int x4)]) hx hb dd_G_hasFairPieces_38 hl rfl (by rw [ev7003]; exact congrArg _ (by decide)) (by decide) rfl (fun ls hl => ?_)
            exact hJ41 v7003 x3 x4 v7002 _ _ _ (lv_sub hl [2, 3, 0, 4, 5, 1] rfl) hP hD hS hf
  rw [fn_G_hasFairPieces] at hf
  refine lv_iconst (v := 0) hx hb dd_G_hasFairPieces_0 (by decide) ?_
  refine lv_istore_n (lv' := [(2, .int 0), (0, .ref oar), (1, .int a1)]) hx hb dd_G_hasFairPieces_1 rfl hl (by decide) rfl (fun ls hl => ?_)
  refine lv_iconst (v := 0) hx hb dd_G_hasFairPieces_2 (by decide) ?_
  refine lv_istore_n (lv' := [(3, .int 0), (2, .int 0), (0, .ref oar), (1, .int a1)]) hx hb dd_G_hasFairPieces_3 rfl hl (by decide) rfl (fun ls hl => ?_)
  refine lv_iconst (v := 0) hx hb dd_G_hasFairPieces_4 (by decide) ?_
  refine lv_istore (lv' := [(4, .int 0), (3, .int 0), (2, .int 0), (0, .ref oar), (1, .int a1)]) hx hb dd_G_hasFairPieces_5 hl (by decide) rfl (fun ls hl => ?_)
  exact hL7 qq_FU 0 0 0 _ _ _ (lv_sub hl [3, 4, 2, 1, 0] rfl) hP hD hS hf
theorem dd_G_isPassedFair_0 : decode bb_G_isPassedFair 0 = .ok (.iload_n 2, 1) := by decide +kernel
theorem dd_G_isPassedFair_1 : decode bb_G_isPassedFair 1 = .ok (.iconst (-1), 1) := by decide +kernel
theorem dd_G_isPassedFair_2 : decode bb_G_isPassedFair 2 = .ok (.if_icmp .ne 5, 3) := by decide +kernel
theorem dd_G_isPassedFair_5 : decode bb_G_isPassedFair 5 = .ok (.iconst 1, 1) := by decide +kernel
theorem dd_G_isPassedFair_6 : decode bb_G_isPassedFair 6 = .ok (.ireturn, 1) := by decide +kernel
theorem dd_G_isPassedFair_7 : decode bb_G_isPassedFair 7 = .ok (.iload_n 2, 1) := by decide +kernel
theorem dd_G_isPassedFair_8 : decode bb_G_isPassedFair 8 = .ok (.bipush 8, 2) := by decide +kernel
theorem dd_G_isPassedFair_10 : decode bb_G_isPassedFair 10 = .ok (.iload_n 1, 1) := by decide +kernel
theorem dd_G_isPassedFair_11 : decode bb_G_isPassedFair 11 = .ok (.ifCond .ne 7, 3) := by decide +kernel
theorem dd_G_isPassedFair_14 : decode bb_G_isPassedFair 14 = .ok (.iconst 4, 1) := by decide +kernel
theorem dd_G_isPassedFair_15 : decode bb_G_isPassedFair 15 = .ok (.goto 4, 3) := by decide +kernel
theorem dd_G_isPassedFair_18 : decode bb_G_isPassedFair 18 = .ok (.iconst 3, 1) := by decide +kernel
theorem dd_G_isPassedFair_19 : decode bb_G_isPassedFair 19 = .ok (.imul, 1) := by decide +kernel
theorem dd_G_isPassedFair_20 : decode bb_G_isPassedFair 20 = .ok (.iadd, 1) := by decide +kernel
theorem dd_G_isPassedFair_21 : decode bb_G_isPassedFair 21 = .ok (.istore_n 3, 1) := by decide +kernel
theorem dd_G_isPassedFair_22 : decode bb_G_isPassedFair 22 = .ok (.iload_n 1, 1) := by decide +kernel
theorem dd_G_isPassedFair_23 : decode bb_G_isPassedFair 23 = .ok (.ifCond .ne 8, 3) := by decide +kernel
theorem dd_G_isPassedFair_26 : decode bb_G_isPassedFair 26 = .ok (.bipush 8, 2) := by decide +kernel
theorem dd_G_isPassedFair_28 : decode bb_G_isPassedFair 28 = .ok (.goto 5, 3) := by decide +kernel
theorem dd_G_isPassedFair_31 : decode bb_G_isPassedFair 31 = .ok (.bipush (-8), 2) := by decide +kernel
theorem dd_G_isPassedFair_33 : decode bb_G_isPassedFair 33 = .ok (.istore 4, 2) := by decide +kernel
theorem dd_G_isPassedFair_35 : decode bb_G_isPassedFair 35 = .ok (.aload_n 0, 1) := by decide +kernel
theorem dd_G_isPassedFair_36 : decode bb_G_isPassedFair 36 = .ok (.iload_n 3, 1) := by decide +kernel
theorem dd_G_isPassedFair_37 : decode bb_G_isPassedFair 37 = .ok (.iaload, 1) := by decide +kernel
theorem dd_G_isPassedFair_38 : decode bb_G_isPassedFair 38 = .ok (.iconst 1, 1) := by decide +kernel
theorem dd_G_isPassedFair_39 : decode bb_G_isPassedFair 39 = .ok (.bipush 6, 2) := by decide +kernel
theorem dd_G_isPassedFair_41 : decode bb_G_isPassedFair 41 = .ok (.iconst 1, 1) := by decide +kernel
theorem dd_G_isPassedFair_42 : decode bb_G_isPassedFair 42 = .ok (.iload_n 1, 1) := by decide +kernel
theorem dd_G_isPassedFair_43 : decode bb_G_isPassedFair 43 = .ok (.isub, 1) := by decide +kernel
theorem dd_G_isPassedFair_44 : decode bb_G_isPassedFair 44 = .ok (.imul, 1) := by decide +kernel
theorem dd_G_isPassedFair_45 : decode bb_G_isPassedFair 45 = .ok (.iadd, 1) := by decide +kernel
theorem dd_G_isPassedFair_46 : decode bb_G_isPassedFair 46 = .ok (.if_icmp .ne 27, 3) := by decide +kernel
theorem dd_G_isPassedFair_49 : decode bb_G_isPassedFair 49 = .ok (.aload_n 0, 1) := by decide +kernel
theorem dd_G_isPassedFair_50 : decode bb_G_isPassedFair 50 = .ok (.iload_n 3, 1) := by decide +kernel
theorem dd_G_isPassedFair_51 : decode bb_G_isPassedFair 51 = .ok (.iload 4, 2) := by decide +kernel
theorem dd_G_isPassedFair_53 : decode bb_G_isPassedFair 53 = .ok (.iadd, 1) := by decide +kernel
theorem dd_G_isPassedFair_54 : decode bb_G_isPassedFair 54 = .ok (.iaload, 1) := by decide +kernel
theorem dd_G_isPassedFair_55 : decode bb_G_isPassedFair 55 = .ok (.ifCond .ne 18, 3) := by decide +kernel
theorem dd_G_isPassedFair_58 : decode bb_G_isPassedFair 58 = .ok (.aload_n 0, 1) := by decide +kernel
theorem dd_G_isPassedFair_59 : decode bb_G_isPassedFair 59 = .ok (.iload_n 3, 1) := by decide +kernel
theorem dd_G_isPassedFair_60 : decode bb_G_isPassedFair 60 = .ok (.iconst 2, 1) := by decide +kernel
theorem dd_G_isPassedFair_61 : decode bb_G_isPassedFair 61 = .ok (.iload 4, 2) := by decide +kernel
theorem dd_G_isPassedFair_63 : decode bb_G_isPassedFair 63 = .ok (.imul, 1) := by decide +kernel
theorem dd_G_isPassedFair_64 : decode bb_G_isPassedFair 64 = .ok (.iadd, 1) := by decide +kernel
theorem dd_G_isPassedFair_65 : decode bb_G_isPassedFair 65 = .ok (.iaload, 1) := by decide +kernel
theorem dd_G_isPassedFair_66 : decode bb_G_isPassedFair 66 = .ok (.ifCond .ne 7, 3) := by decide +kernel
theorem dd_G_isPassedFair_69 : decode bb_G_isPassedFair 69 = .ok (.iconst 1, 1) := by decide +kernel
theorem dd_G_isPassedFair_70 : decode bb_G_isPassedFair 70 = .ok (.goto 4, 3) := by decide +kernel
theorem dd_G_isPassedFair_73 : decode bb_G_isPassedFair 73 = .ok (.iconst 0, 1) := by decide +kernel
theorem dd_G_isPassedFair_74 : decode bb_G_isPassedFair 74 = .ok (.ireturn, 1) := by decide +kernel
abbrev ty_G_isPassedFair : Type := Int32
noncomputable def bk_G_isPassedFair_74 (ar : Nat → Int32) (a1 : Int32) (a2 : Int32) (s0 : Int32) : Option ty_G_isPassedFair := qq_ck (qq_b s0) <| some s0
noncomputable def bk_G_isPassedFair_73 (ar : Nat → Int32) (a1 : Int32) (a2 : Int32) : Option ty_G_isPassedFair := bk_G_isPassedFair_74 ar a1 a2 0
noncomputable def bk_G_isPassedFair_33 (ar : Nat → Int32) (a1 : Int32) (a2 : Int32) (x3 : Int32) (s0 : Int32) : Option ty_G_isPassedFair := qq_ck (qq_in x3 64) <| if (ar x3.toNatClampNeg) = (1 + (6 * (1 - a1))) then (qq_ck (qq_in (x3 + s0) 64) <| if (ar (x3 + s0).toNatClampNeg) = 0 then (qq_ck (qq_in (x3 + (2 * s0)) 64) <| if (ar (x3 + (2 * s0)).toNatClampNeg) = 0 then (bk_G_isPassedFair_74 ar a1 a2 1) else (bk_G_isPassedFair_73 ar a1 a2)) else (bk_G_isPassedFair_73 ar a1 a2)) else (bk_G_isPassedFair_73 ar a1 a2)
noncomputable def bk_G_isPassedFair_19 (ar : Nat → Int32) (a1 : Int32) (a2 : Int32) (s0 : Int32) (s1 : Int32) (s2 : Int32) : Option ty_G_isPassedFair := qq_let (s0 + (s1 * s2)) fun v4001 => if a1 = 0 then (bk_G_isPassedFair_33 ar a1 a2 v4001 8) else (bk_G_isPassedFair_33 ar a1 a2 v4001 (-8))
noncomputable def fn_G_isPassedFair (ar : Nat → Int32) (a1 : Int32) (a2 : Int32) : Option ty_G_isPassedFair := if a2 = (-1) then (some (1 : Int32)) else (if a1 = 0 then (bk_G_isPassedFair_19 ar a1 a2 a2 8 4) else (bk_G_isPassedFair_19 ar a1 a2 a2 8 3))
abbrev rm_G_isPassedFair : Room := { frames := 0, cells := 0, slots := 0, locals := 0 }
set_option maxHeartbeats 4000000 in
set_option maxRecDepth 100000 in
theorem ct_G_isPassedFair (l : Launch) (dC : Nat → ClassId) (dI : Nat → Nat → Nat) (cI cL cR : ClassId) (oar : Nat) (ar : Nat → Int32) (a1 : Int32) (a2 : Int32) {rr : Int32} (hf : fn_G_isPassedFair ar a1 a2 = some rr) : qq_det l yy_G_isPassedFair (ww_of yy_G_isPassedFair bb_G_isPassedFair 5 (some .boolean)) rm_G_isPassedFair (dC, dI) (qq_ty cI cL cR) [.ref oar, .int a1, .int a2] [(oar, .inl (cI, 64, .inl ar))] (some (.int rr)) [(oar, .inl (cI, 64, .inl ar))] := by
  refine qq_of (own := RR_G) (by decide) rfl (Nat.le_of_ble_eq_true rfl) ?_
  intro p e s m below meth c A Q ls hx hb hml hr hlocks hown hts hK hA hT hN hP hD hS hl hQ
  have hl : lv_has ls 5 [(0, .ref oar), (1, .int a1), (2, .int a2)] := hl
  have hJ74 : ∀ (s0 : Int32) (H : Heap) (locs : List Loc) (ls : Array Slot), lv_has ls 5 [] → va_P (dC, dI) classes [(oar, .inl (cI, 64, .inl ar))] H → va_D A [(oar, .inl (cI, 64, .inl ar))] → va_S A s.heap H locs → bk_G_isPassedFair_74 ar a1 a2 s0 = some rr → W p l e rm_G_isPassedFair s m ([.ref oar, .int a1, .int a2] : List Value).toArray below meth c H locs 0 0 Q (F0 m 74 ls [.int s0]) := by
    intro s0 H locs ls hl hP hD hS hf
    rw [bk_G_isPassedFair_74] at hf
    obtain ⟨hzb, hf⟩ := qq_ckE hf
    cases hf
    exact qq_zret hx hb hr (qq_bE hzb) hlocks hQ hP hD hK hS dd_G_isPassedFair_74
  have hJ73 : ∀  (H : Heap) (locs : List Loc) (ls : Array Slot), lv_has ls 5 [] → va_P (dC, dI) classes [(oar, .inl (cI, 64, .inl ar))] H → va_D A [(oar, .inl (cI, 64, .inl ar))] → va_S A s.heap H locs → bk_G_isPassedFair_73 ar a1 a2 = some rr → W p l e rm_G_isPassedFair s m ([.ref oar, .int a1, .int a2] : List Value).toArray below meth c H locs 0 0 Q (F0 m 73 ls []) := by
    intro  H locs ls hl hP hD hS hf
    rw [bk_G_isPassedFair_73] at hf
    refine lv_iconst (v := 0) hx hb dd_G_isPassedFair_73 (by decide) ?_
    exact hJ74 0 _ _ _ (lv_sub hl [] rfl) hP hD hS hf
  have hJ33 : ∀ (x3 : Int32) (s0 : Int32) (H : Heap) (locs : List Loc) (ls : Array Slot), lv_has ls 5 [(0, .ref oar), (1, .int a1), (3, .int x3)] → va_P (dC, dI) classes [(oar, .inl (cI, 64, .inl ar))] H → va_D A [(oar, .inl (cI, 64, .inl ar))] → va_S A s.heap H locs → bk_G_isPassedFair_33 ar a1 a2 x3 s0 = some rr → W p l e rm_G_isPassedFair s m ([.ref oar, .int a1, .int a2] : List Value).toArray below meth c H locs 0 0 Q (F0 m 33 ls [.int s0]) := by
    intro x3 s0 H locs ls hl hP hD hS hf
    rw [bk_G_isPassedFair_33] at hf
    refine lv_istore (lv' := [(4, .int s0), (0, .ref oar), (1, .int a1), (3, .int x3)]) hx hb dd_G_isPassedFair_33 hl (by decide) rfl (fun ls hl => ?_)
    refine lv_aload_n hx hb dd_G_isPassedFair_35 rfl (lv_at hl 1 rfl) ?_
    refine lv_iload_n hx hb dd_G_isPassedFair_36 rfl (lv_at hl 3 rfl) ?_
    obtain ⟨hi3001, hf⟩ := qq_ckE hf
    refine va_iald (D := (dC, dI)) (f := ar) (n := 64) (cA := cI) hx hb hK hP 0 0 rfl rfl (qq_inE hi3001) dd_G_isPassedFair_37 ?_
    refine lv_iconst (v := 1) hx hb dd_G_isPassedFair_38 (by decide) ?_
    refine lv_bipush (v := 6) hx hb dd_G_isPassedFair_39 (by decide) ?_
    refine lv_iconst (v := 1) hx hb dd_G_isPassedFair_41 (by decide) ?_
    refine lv_iload_n hx hb dd_G_isPassedFair_42 rfl (lv_at hl 2 rfl) ?_
    refine lv_isub hx hb dd_G_isPassedFair_43 ?_
    refine lv_imul hx hb dd_G_isPassedFair_44 ?_
    refine lv_iadd hx hb dd_G_isPassedFair_45 ?_
    refine lv_icmp_ne (tgt := 73) hx hb dd_G_isPassedFair_46 (by decide) (fun hc => ?_) (fun hc => ?_)
    · replace hf := qq_f hc hf
      exact hJ73  _ _ _ (lv_sub hl [] rfl) hP hD hS hf
    · replace hf := qq_t hc hf
      refine lv_aload_n hx hb dd_G_isPassedFair_49 rfl (lv_at hl 1 rfl) ?_
      refine lv_iload_n hx hb dd_G_isPassedFair_50 rfl (lv_at hl 3 rfl) ?_
      refine lv_iload hx hb dd_G_isPassedFair_51 (lv_at hl 0 rfl) ?_
      refine lv_iadd hx hb dd_G_isPassedFair_53 ?_
      obtain ⟨hi3002, hf⟩ := qq_ckE hf
      refine va_iald (D := (dC, dI)) (f := ar) (n := 64) (cA := cI) hx hb hK hP 0 0 rfl rfl (qq_inE hi3002) dd_G_isPassedFair_54 ?_
      refine lv_if_ne (tgt := 73) hx hb dd_G_isPassedFair_55 (by decide) (fun hc => ?_) (fun hc => ?_)
      · replace hf := qq_f hc hf
        exact hJ73  _ _ _ (lv_sub hl [] rfl) hP hD hS hf
      · replace hf := qq_t hc hf
        refine lv_aload_n hx hb dd_G_isPassedFair_58 rfl (lv_at hl 1 rfl) ?_
        refine lv_iload_n hx hb dd_G_isPassedFair_59 rfl (lv_at hl 3 rfl) ?_
        refine lv_iconst (v := 2) hx hb dd_G_isPassedFair_60 (by decide) ?_
        refine lv_iload hx hb dd_G_isPassedFair_61 (lv_at hl 0 rfl) ?_
        refine lv_imul hx hb dd_G_isPassedFair_63 ?_
        refine lv_iadd hx hb dd_G_isPassedFair_64 ?_
        obtain ⟨hi3003, hf⟩ := qq_ckE hf
        refine va_iald (D := (dC, dI)) (f := ar) (n := 64) (cA := cI) hx hb hK hP 0 0 rfl rfl (qq_inE hi3003) dd_G_isPassedFair_65 ?_
        refine lv_if_ne (tgt := 73) hx hb dd_G_isPassedFair_66 (by decide) (fun hc => ?_) (fun hc => ?_)
        · replace hf := qq_f hc hf
          exact hJ73  _ _ _ (lv_sub hl [] rfl) hP hD hS hf
        · replace hf := qq_t hc hf
          refine lv_iconst (v := 1) hx hb dd_G_isPassedFair_69 (by decide) ?_
          refine lv_goto (tgt := 74) hx hb dd_G_isPassedFair_70 (by decide) ?_
          exact hJ74 1 _ _ _ (lv_sub hl [] rfl) hP hD hS hf
  have hJ19 : ∀ (s0 : Int32) (s1 : Int32) (s2 : Int32) (H : Heap) (locs : List Loc) (ls : Array Slot), lv_has ls 5 [(0, .ref oar), (1, .int a1)] → va_P (dC, dI) classes [(oar, .inl (cI, 64, .inl ar))] H → va_D A [(oar, .inl (cI, 64, .inl ar))] → va_S A s.heap H locs → bk_G_isPassedFair_19 ar a1 a2 s0 s1 s2 = some rr → W p l e rm_G_isPassedFair s m ([.ref oar, .int a1, .int a2] : List Value).toArray below meth c H locs 0 0 Q (F0 m 19 ls [.int s2, .int s1, .int s0]) := by
    intro s0 s1 s2 H locs ls hl hP hD hS hf
    rw [bk_G_isPassedFair_19] at hf
    refine lv_imul hx hb dd_G_isPassedFair_19 ?_
    refine lv_iadd hx hb dd_G_isPassedFair_20 ?_
    refine lv_topi (fun v4001 ev4001 => ?_)
    replace hf := qq_lt ev4001 hf
    refine lv_istore_n (lv' := [(3, .int v4001), (0, .ref oar), (1, .int a1)]) hx hb dd_G_isPassedFair_21 rfl hl (by decide) rfl (fun ls hl => ?_)
    refine lv_iload_n hx hb dd_G_isPassedFair_22 rfl (lv_at hl 2 rfl) ?_
    refine lv_if_ne (tgt := 31) hx hb dd_G_isPassedFair_23 (by decide) (fun hc => ?_) (fun hc => ?_)
    · replace hf := qq_f hc hf
      refine lv_bipush (v := (-8)) hx hb dd_G_isPassedFair_31 (by decide) ?_
      exact hJ33 v4001 (-8) _ _ _ (lv_sub hl [1, 2, 0] rfl) hP hD hS hf
    · replace hf := qq_t hc hf
      refine lv_bipush (v := 8) hx hb dd_G_isPassedFair_26 (by decide) ?_
      refine lv_goto (tgt := 33) hx hb dd_G_isPassedFair_28 (by decide) ?_
      exact hJ33 v4001 8 _ _ _ (lv_sub hl [1, 2, 0] rfl) hP hD hS hf
  rw [fn_G_isPassedFair] at hf
  refine lv_iload_n hx hb dd_G_isPassedFair_0 rfl (lv_at hl 2 rfl) ?_
  refine lv_iconst (v := (-1)) hx hb dd_G_isPassedFair_1 (by decide) ?_
  refine lv_icmp_ne (tgt := 7) hx hb dd_G_isPassedFair_2 (by decide) (fun hc => ?_) (fun hc => ?_)
  · replace hf := qq_f hc hf
    refine lv_iload_n hx hb dd_G_isPassedFair_7 rfl (lv_at hl 2 rfl) ?_
    refine lv_bipush (v := 8) hx hb dd_G_isPassedFair_8 (by decide) ?_
    refine lv_iload_n hx hb dd_G_isPassedFair_10 rfl (lv_at hl 1 rfl) ?_
    refine lv_if_ne (tgt := 18) hx hb dd_G_isPassedFair_11 (by decide) (fun hc => ?_) (fun hc => ?_)
    · replace hf := qq_f hc hf
      refine lv_iconst (v := 3) hx hb dd_G_isPassedFair_18 (by decide) ?_
      exact hJ19 a2 8 3 _ _ _ (lv_sub hl [0, 1] rfl) hP hD hS hf
    · replace hf := qq_t hc hf
      refine lv_iconst (v := 4) hx hb dd_G_isPassedFair_14 (by decide) ?_
      refine lv_goto (tgt := 19) hx hb dd_G_isPassedFair_15 (by decide) ?_
      exact hJ19 a2 8 4 _ _ _ (lv_sub hl [0, 1] rfl) hP hD hS hf
  · replace hf := qq_t hc hf
    refine lv_iconst (v := 1) hx hb dd_G_isPassedFair_5 (by decide) ?_
    cases hf
    exact qq_zret hx hb hr rfl hlocks hQ hP hD hK hS dd_G_isPassedFair_6
theorem dd_G_isAllowed_0 : decode bb_G_isAllowed 0 = .ok (.iload_n 1, 1) := by decide +kernel
theorem dd_G_isAllowed_1 : decode bb_G_isAllowed 1 = .ok (.invokestatic 9, 3) := by decide +kernel
theorem dd_G_isAllowed_4 : decode bb_G_isAllowed 4 = .ok (.ifCond .eq 94, 3) := by decide +kernel
theorem dd_G_isAllowed_7 : decode bb_G_isAllowed 7 = .ok (.iload_n 2, 1) := by decide +kernel
theorem dd_G_isAllowed_8 : decode bb_G_isAllowed 8 = .ok (.ifCond .lt 90, 3) := by decide +kernel
theorem dd_G_isAllowed_11 : decode bb_G_isAllowed 11 = .ok (.iload_n 2, 1) := by decide +kernel
theorem dd_G_isAllowed_12 : decode bb_G_isAllowed 12 = .ok (.bipush 15, 2) := by decide +kernel
theorem dd_G_isAllowed_14 : decode bb_G_isAllowed 14 = .ok (.if_icmp .gt 84, 3) := by decide +kernel
theorem dd_G_isAllowed_17 : decode bb_G_isAllowed 17 = .ok (.iload_n 3, 1) := by decide +kernel
theorem dd_G_isAllowed_18 : decode bb_G_isAllowed 18 = .ok (.iconst (-1), 1) := by decide +kernel
theorem dd_G_isAllowed_19 : decode bb_G_isAllowed 19 = .ok (.if_icmp .lt 79, 3) := by decide +kernel
theorem dd_G_isAllowed_22 : decode bb_G_isAllowed 22 = .ok (.iload_n 3, 1) := by decide +kernel
theorem dd_G_isAllowed_23 : decode bb_G_isAllowed 23 = .ok (.bipush 7, 2) := by decide +kernel
theorem dd_G_isAllowed_25 : decode bb_G_isAllowed 25 = .ok (.if_icmp .gt 73, 3) := by decide +kernel
theorem dd_G_isAllowed_28 : decode bb_G_isAllowed 28 = .ok (.aload_n 0, 1) := by decide +kernel
theorem dd_G_isAllowed_29 : decode bb_G_isAllowed 29 = .ok (.getfield 13, 3) := by decide +kernel
theorem dd_G_isAllowed_32 : decode bb_G_isAllowed 32 = .ok (.iconst 0, 1) := by decide +kernel
theorem dd_G_isAllowed_33 : decode bb_G_isAllowed 33 = .ok (.invokestatic 19, 3) := by decide +kernel
theorem dd_G_isAllowed_36 : decode bb_G_isAllowed 36 = .ok (.ifCond .eq 62, 3) := by decide +kernel
theorem dd_G_isAllowed_39 : decode bb_G_isAllowed 39 = .ok (.aload_n 0, 1) := by decide +kernel
theorem dd_G_isAllowed_40 : decode bb_G_isAllowed 40 = .ok (.getfield 13, 3) := by decide +kernel
theorem dd_G_isAllowed_43 : decode bb_G_isAllowed 43 = .ok (.iconst 1, 1) := by decide +kernel
theorem dd_G_isAllowed_44 : decode bb_G_isAllowed 44 = .ok (.invokestatic 19, 3) := by decide +kernel
theorem dd_G_isAllowed_47 : decode bb_G_isAllowed 47 = .ok (.ifCond .eq 51, 3) := by decide +kernel
theorem dd_G_isAllowed_50 : decode bb_G_isAllowed 50 = .ok (.aload_n 0, 1) := by decide +kernel
theorem dd_G_isAllowed_51 : decode bb_G_isAllowed 51 = .ok (.iload_n 1, 1) := by decide +kernel
theorem dd_G_isAllowed_52 : decode bb_G_isAllowed 52 = .ok (.aload_n 0, 1) := by decide +kernel
theorem dd_G_isAllowed_53 : decode bb_G_isAllowed 53 = .ok (.bipush 6, 2) := by decide +kernel
theorem dd_G_isAllowed_55 : decode bb_G_isAllowed 55 = .ok (.bipush 6, 2) := by decide +kernel
theorem dd_G_isAllowed_57 : decode bb_G_isAllowed 57 = .ok (.iconst 1, 1) := by decide +kernel
theorem dd_G_isAllowed_58 : decode bb_G_isAllowed 58 = .ok (.iload_n 1, 1) := by decide +kernel
theorem dd_G_isAllowed_59 : decode bb_G_isAllowed 59 = .ok (.isub, 1) := by decide +kernel
theorem dd_G_isAllowed_60 : decode bb_G_isAllowed 60 = .ok (.imul, 1) := by decide +kernel
theorem dd_G_isAllowed_61 : decode bb_G_isAllowed 61 = .ok (.iadd, 1) := by decide +kernel
theorem dd_G_isAllowed_62 : decode bb_G_isAllowed 62 = .ok (.invokevirtual 25, 3) := by decide +kernel
theorem dd_G_isAllowed_65 : decode bb_G_isAllowed 65 = .ok (.invokevirtual 29, 3) := by decide +kernel
theorem dd_G_isAllowed_68 : decode bb_G_isAllowed 68 = .ok (.ifCond .ne 30, 3) := by decide +kernel
theorem dd_G_isAllowed_71 : decode bb_G_isAllowed 71 = .ok (.aload_n 0, 1) := by decide +kernel
theorem dd_G_isAllowed_72 : decode bb_G_isAllowed 72 = .ok (.getfield 13, 3) := by decide +kernel
theorem dd_G_isAllowed_75 : decode bb_G_isAllowed 75 = .ok (.iload_n 2, 1) := by decide +kernel
theorem dd_G_isAllowed_76 : decode bb_G_isAllowed 76 = .ok (.invokestatic 33, 3) := by decide +kernel
theorem dd_G_isAllowed_79 : decode bb_G_isAllowed 79 = .ok (.ifCond .eq 19, 3) := by decide +kernel
theorem dd_G_isAllowed_82 : decode bb_G_isAllowed 82 = .ok (.aload_n 0, 1) := by decide +kernel
theorem dd_G_isAllowed_83 : decode bb_G_isAllowed 83 = .ok (.getfield 13, 3) := by decide +kernel
theorem dd_G_isAllowed_86 : decode bb_G_isAllowed 86 = .ok (.iload_n 1, 1) := by decide +kernel
theorem dd_G_isAllowed_87 : decode bb_G_isAllowed 87 = .ok (.iload_n 3, 1) := by decide +kernel
theorem dd_G_isAllowed_88 : decode bb_G_isAllowed 88 = .ok (.invokestatic 36, 3) := by decide +kernel
theorem dd_G_isAllowed_91 : decode bb_G_isAllowed 91 = .ok (.ifCond .eq 7, 3) := by decide +kernel
theorem dd_G_isAllowed_94 : decode bb_G_isAllowed 94 = .ok (.iconst 1, 1) := by decide +kernel
theorem dd_G_isAllowed_95 : decode bb_G_isAllowed 95 = .ok (.goto 4, 3) := by decide +kernel
theorem dd_G_isAllowed_98 : decode bb_G_isAllowed 98 = .ok (.iconst 0, 1) := by decide +kernel
theorem dd_G_isAllowed_99 : decode bb_G_isAllowed 99 = .ok (.ireturn, 1) := by decide +kernel
abbrev ty_G_isAllowed : Type := Int32
noncomputable def bk_G_isAllowed_99 (sq : Nat → Int32) (a1 : Int32) (a2 : Int32) (a3 : Int32) (s0 : Int32) : Option ty_G_isAllowed := qq_ck (qq_b s0) <| some s0
noncomputable def bk_G_isAllowed_98 (sq : Nat → Int32) (a1 : Int32) (a2 : Int32) (a3 : Int32) : Option ty_G_isAllowed := bk_G_isAllowed_99 sq a1 a2 a3 0
noncomputable def fn_G_isAllowed (sq : Nat → Int32) (a1 : Int32) (a2 : Int32) (a3 : Int32) : Option ty_G_isAllowed := (fn_B_isSide a1).bind fun r1 => if r1 = 0 then (bk_G_isAllowed_98 sq a1 a2 a3) else (if a2 < 0 then (bk_G_isAllowed_98 sq a1 a2 a3) else (if 15 < a2 then (bk_G_isAllowed_98 sq a1 a2 a3) else (if a3 < (-1) then (bk_G_isAllowed_98 sq a1 a2 a3) else (if 7 < a3 then (bk_G_isAllowed_98 sq a1 a2 a3) else ((fn_G_hasFairPieces sq 0).bind fun r2 => if r2 = 0 then (bk_G_isAllowed_98 sq a1 a2 a3) else ((fn_G_hasFairPieces sq 1).bind fun r3 => if r3 = 0 then (bk_G_isAllowed_98 sq a1 a2 a3) else ((fn_P_squareOf sq (6 + (6 * (1 - a1)))).bind fun r4 => (fn_P_isHitBy sq a1 r4).bind fun r5 => if r5 = 0 then ((fn_G_areRightsFair sq a2).bind fun r6 => if r6 = 0 then (bk_G_isAllowed_98 sq a1 a2 a3) else ((fn_G_isPassedFair sq a1 a3).bind fun r7 => if r7 = 0 then (bk_G_isAllowed_98 sq a1 a2 a3) else (bk_G_isAllowed_99 sq a1 a2 a3 1))) else (bk_G_isAllowed_98 sq a1 a2 a3))))))))
abbrev rm_G_isAllowed : Room := { frames := 2, cells := 0, slots := 0, locals := 52 }
set_option maxHeartbeats 4000000 in
set_option maxRecDepth 100000 in
theorem ct_G_isAllowed (l : Launch) (dC : Nat → ClassId) (dI : Nat → Nat → Nat) (cI cL cR : ClassId) (oP osq okg : Nat) (sd : Int32) (rt : Int32) (ps : Int32) (sq : Nat → Int32) (kg : Nat → Int32) (a1 : Int32) (a2 : Int32) (a3 : Int32) {rr : Int32} (hf : fn_G_isAllowed sq a1 a2 a3 = some rr) : qq_det l yy_G_isAllowed (ww_of yy_G_isAllowed bb_G_isAllowed 4 (some .boolean)) rm_G_isAllowed (dC, dI) (qq_ty cI cL cR) [.ref oP, .int a1, .int a2, .int a3] [(oP, .inr (1, [.ref osq, .ref okg, .int sd, .int rt, .int ps])), (osq, .inl (cI, 64, .inl sq)), (okg, .inl (cI, 2, .inl kg))] (some (.int rr)) [(oP, .inr (1, [.ref osq, .ref okg, .int sd, .int rt, .int ps])), (osq, .inl (cI, 64, .inl sq)), (okg, .inl (cI, 2, .inl kg))] := by
  refine qq_of (own := RR_G) (by decide) rfl (Nat.le_of_ble_eq_true rfl) ?_
  intro p e s m below meth c A Q ls hx hb hml hr hlocks hown hts hK hA hT hN hP hD hS hl hQ
  have hl : lv_has ls 4 [(0, .ref oP), (1, .int a1), (2, .int a2), (3, .int a3)] := hl
  have hJ99 : ∀ (s0 : Int32) (H : Heap) (locs : List Loc) (ls : Array Slot), lv_has ls 4 [] → va_P (dC, dI) classes [(oP, .inr (1, [.ref osq, .ref okg, .int sd, .int rt, .int ps])), (osq, .inl (cI, 64, .inl sq)), (okg, .inl (cI, 2, .inl kg))] H → va_D A [(oP, .inr (1, [.ref osq, .ref okg, .int sd, .int rt, .int ps])), (osq, .inl (cI, 64, .inl sq)), (okg, .inl (cI, 2, .inl kg))] → va_S A s.heap H locs → bk_G_isAllowed_99 sq a1 a2 a3 s0 = some rr → W p l e rm_G_isAllowed s m ([.ref oP, .int a1, .int a2, .int a3] : List Value).toArray below meth c H locs 0 0 Q (F0 m 99 ls [.int s0]) := by
    intro s0 H locs ls hl hP hD hS hf
    rw [bk_G_isAllowed_99] at hf
    obtain ⟨hzb, hf⟩ := qq_ckE hf
    cases hf
    exact qq_zret hx hb hr (qq_bE hzb) hlocks hQ hP hD hK hS dd_G_isAllowed_99
  have hJ98 : ∀  (H : Heap) (locs : List Loc) (ls : Array Slot), lv_has ls 4 [] → va_P (dC, dI) classes [(oP, .inr (1, [.ref osq, .ref okg, .int sd, .int rt, .int ps])), (osq, .inl (cI, 64, .inl sq)), (okg, .inl (cI, 2, .inl kg))] H → va_D A [(oP, .inr (1, [.ref osq, .ref okg, .int sd, .int rt, .int ps])), (osq, .inl (cI, 64, .inl sq)), (okg, .inl (cI, 2, .inl kg))] → va_S A s.heap H locs → bk_G_isAllowed_98 sq a1 a2 a3 = some rr → W p l e rm_G_isAllowed s m ([.ref oP, .int a1, .int a2, .int a3] : List Value).toArray below meth c H locs 0 0 Q (F0 m 98 ls []) := by
    intro  H locs ls hl hP hD hS hf
    rw [bk_G_isAllowed_98] at hf
    refine lv_iconst (v := 0) hx hb dd_G_isAllowed_98 (by decide) ?_
    exact hJ99 0 _ _ _ (lv_sub hl [] rfl) hP hD hS hf
  rw [fn_G_isAllowed] at hf
  refine lv_iload_n hx hb dd_G_isAllowed_0 rfl (lv_at hl 1 rfl) ?_
  obtain ⟨r1, hy1, hf⟩ := qq_bd hf
  refine qq_SN (As := [.int a1]) (rest := []) (wr := [(oP, .inr (1, [.ref osq, .ref okg, .int sd, .int rt, .int ps])), (osq, .inl (cI, 64, .inl sq)), (okg, .inl (cI, 2, .inl kg))]) (wf := [(oP, .inr (1, [.ref osq, .ref okg, .int sd, .int rt, .int ps])), (osq, .inl (cI, 64, .inl sq)), (okg, .inl (cI, 2, .inl kg))]) ⟨hx, hb, hml, hown, hts⟩ (ct_B_isSide l dC dI cI cL cR a1 hy1) (hN.1 _ nm_1) mm_187 mm_186 mm_1 hd_B_isSide (by decide) qq_00 hP hD hK hS hA hT hN [] [0, 1, 2] [0, 1, 2] rfl rfl rfl (by decide) rfl hl.1 rfl (Nat.le_of_ble_eq_true rfl) dd_G_isAllowed_1 (fun H locs hP hD hS => ?_)
  refine W.eq (g2 := F0 m 4 ls [.int r1]) rfl ?_
  refine lv_if_eq (tgt := 98) hx hb dd_G_isAllowed_4 (by decide) (fun hc => ?_) (fun hc => ?_)
  · replace hf := qq_t hc hf
    exact hJ98  _ _ _ (lv_sub hl [] rfl) hP hD hS hf
  · replace hf := qq_f hc hf
    refine lv_iload_n hx hb dd_G_isAllowed_7 rfl (lv_at hl 2 rfl) ?_
    refine lv_if_lt (tgt := 98) hx hb dd_G_isAllowed_8 (by decide) (fun hc => ?_) (fun hc => ?_)
    · replace hf := qq_t hc hf
      exact hJ98  _ _ _ (lv_sub hl [] rfl) hP hD hS hf
    · replace hf := qq_f hc hf
      refine lv_iload_n hx hb dd_G_isAllowed_11 rfl (lv_at hl 2 rfl) ?_
      refine lv_bipush (v := 15) hx hb dd_G_isAllowed_12 (by decide) ?_
      refine lv_icmp_gt (tgt := 98) hx hb dd_G_isAllowed_14 (by decide) (fun hc => ?_) (fun hc => ?_)
      · replace hf := qq_t hc hf
        exact hJ98  _ _ _ (lv_sub hl [] rfl) hP hD hS hf
      · replace hf := qq_f hc hf
        refine lv_iload_n hx hb dd_G_isAllowed_17 rfl (lv_at hl 3 rfl) ?_
        refine lv_iconst (v := (-1)) hx hb dd_G_isAllowed_18 (by decide) ?_
        refine lv_icmp_lt (tgt := 98) hx hb dd_G_isAllowed_19 (by decide) (fun hc => ?_) (fun hc => ?_)
        · replace hf := qq_t hc hf
          exact hJ98  _ _ _ (lv_sub hl [] rfl) hP hD hS hf
        · replace hf := qq_f hc hf
          refine lv_iload_n hx hb dd_G_isAllowed_22 rfl (lv_at hl 3 rfl) ?_
          refine lv_bipush (v := 7) hx hb dd_G_isAllowed_23 (by decide) ?_
          refine lv_icmp_gt (tgt := 98) hx hb dd_G_isAllowed_25 (by decide) (fun hc => ?_) (fun hc => ?_)
          · replace hf := qq_t hc hf
            exact hJ98  _ _ _ (lv_sub hl [] rfl) hP hD hS hf
          · replace hf := qq_f hc hf
            refine lv_aload_n hx hb dd_G_isAllowed_28 rfl (lv_at hl 0 rfl) ?_
            refine va_get (D := (dC, dI)) (ci := 1) (v := .ref osq) (C := RR_P) (T := FF_P) (N := 5) hx hb hts uu_P hown hK hP 0 rfl rfl 0 (by decide) (hts _ mm_188) (fun _ h9 => h9) rfl dd_G_isAllowed_29 ?_
            refine lv_iconst (v := 0) hx hb dd_G_isAllowed_32 (by decide) ?_
            obtain ⟨r2, hy2, hf⟩ := qq_bd hf
            refine qq_S (As := [.ref osq, .int 0]) (rest := []) (wr := [(oP, .inr (1, [.ref osq, .ref okg, .int sd, .int rt, .int ps])), (okg, .inl (cI, 2, .inl kg))]) (wf := [(oP, .inr (1, [.ref osq, .ref okg, .int sd, .int rt, .int ps])), (osq, .inl (cI, 64, .inl sq)), (okg, .inl (cI, 2, .inl kg))]) ⟨hx, hb, hml, hown, hts⟩ (ct_G_hasFairPieces l dC dI cI cL cR osq sq 0 hy2) mm_191 mm_192 mm_189 mm_190 hd_G_hasFairPieces (by decide) qq_00 hP hD hK hS hA hT hN [1] [0, 2] [0, 2, 1] rfl rfl rfl (by decide) rfl hl.1 rfl (Nat.le_of_ble_eq_true rfl) dd_G_isAllowed_33 (fun H locs hP hD hS => ?_)
            refine W.eq (g2 := F0 m 36 ls [.int r2]) rfl ?_
            refine lv_if_eq (tgt := 98) hx hb dd_G_isAllowed_36 (by decide) (fun hc => ?_) (fun hc => ?_)
            · replace hf := qq_t hc hf
              exact hJ98  _ _ _ (lv_sub hl [] rfl) hP hD hS hf
            · replace hf := qq_f hc hf
              refine lv_aload_n hx hb dd_G_isAllowed_39 rfl (lv_at hl 0 rfl) ?_
              refine va_get (D := (dC, dI)) (ci := 1) (v := .ref osq) (C := RR_P) (T := FF_P) (N := 5) hx hb hts uu_P hown hK hP 0 rfl rfl 0 (by decide) (hts _ mm_188) (fun _ h9 => h9) rfl dd_G_isAllowed_40 ?_
              refine lv_iconst (v := 1) hx hb dd_G_isAllowed_43 (by decide) ?_
              obtain ⟨r3, hy3, hf⟩ := qq_bd hf
              refine qq_S (As := [.ref osq, .int 1]) (rest := []) (wr := [(oP, .inr (1, [.ref osq, .ref okg, .int sd, .int rt, .int ps])), (okg, .inl (cI, 2, .inl kg))]) (wf := [(oP, .inr (1, [.ref osq, .ref okg, .int sd, .int rt, .int ps])), (osq, .inl (cI, 64, .inl sq)), (okg, .inl (cI, 2, .inl kg))]) ⟨hx, hb, hml, hown, hts⟩ (ct_G_hasFairPieces l dC dI cI cL cR osq sq 1 hy3) mm_191 mm_192 mm_189 mm_190 hd_G_hasFairPieces (by decide) qq_00 hP hD hK hS hA hT hN [1] [0, 2] [0, 2, 1] rfl rfl rfl (by decide) rfl hl.1 rfl (Nat.le_of_ble_eq_true rfl) dd_G_isAllowed_44 (fun H locs hP hD hS => ?_)
              refine W.eq (g2 := F0 m 47 ls [.int r3]) rfl ?_
              refine lv_if_eq (tgt := 98) hx hb dd_G_isAllowed_47 (by decide) (fun hc => ?_) (fun hc => ?_)
              · replace hf := qq_t hc hf
                exact hJ98  _ _ _ (lv_sub hl [] rfl) hP hD hS hf
              · replace hf := qq_f hc hf
                refine lv_aload_n hx hb dd_G_isAllowed_50 rfl (lv_at hl 0 rfl) ?_
                refine lv_iload_n hx hb dd_G_isAllowed_51 rfl (lv_at hl 1 rfl) ?_
                refine lv_aload_n hx hb dd_G_isAllowed_52 rfl (lv_at hl 0 rfl) ?_
                refine lv_bipush (v := 6) hx hb dd_G_isAllowed_53 (by decide) ?_
                refine lv_bipush (v := 6) hx hb dd_G_isAllowed_55 (by decide) ?_
                refine lv_iconst (v := 1) hx hb dd_G_isAllowed_57 (by decide) ?_
                refine lv_iload_n hx hb dd_G_isAllowed_58 rfl (lv_at hl 1 rfl) ?_
                refine lv_isub hx hb dd_G_isAllowed_59 ?_
                refine lv_imul hx hb dd_G_isAllowed_60 ?_
                refine lv_iadd hx hb dd_G_isAllowed_61 ?_
                obtain ⟨r4, hy4, hf⟩ := qq_bd hf
                refine qq_V (As := [.int (6 + (6 * (1 - a1)))]) (rest := [.int a1, .ref oP]) (wr := []) (wf := [(oP, .inr (1, [.ref osq, .ref okg, .int sd, .int rt, .int ps])), (osq, .inl (cI, 64, .inl sq)), (okg, .inl (cI, 2, .inl kg))]) ⟨hx, hb, hml, hown, hts⟩ (ct_P_squareOf l dC dI cI cL cR oP osq okg sd rt ps sq kg (6 + (6 * (1 - a1))) hy4) mm_193 mm_172 mm_173 mm_170 mm_15 hd_P_squareOf (by decide) qq_00 hP hD hK hS hA hT hN (q0 := 0) (ci := 1) rfl rfl [0, 1, 2] [] [0, 1, 2] rfl rfl rfl (by decide) rfl hl.1 rfl (Nat.le_of_ble_eq_true rfl) dd_G_isAllowed_62 (fun H locs hP hD hS => ?_)
                refine W.eq (g2 := F0 m 65 ls [.int r4, .int a1, .ref oP]) rfl ?_
                obtain ⟨r5, hy5, hf⟩ := qq_bd hf
                refine qq_V (As := [.int a1, .int r4]) (rest := []) (wr := []) (wf := [(oP, .inr (1, [.ref osq, .ref okg, .int sd, .int rt, .int ps])), (osq, .inl (cI, 64, .inl sq)), (okg, .inl (cI, 2, .inl kg))]) ⟨hx, hb, hml, hown, hts⟩ (ct_P_isHitBy l dC dI cI cL cR oP osq okg sd rt ps sq kg a1 r4 hy5) mm_194 mm_83 mm_84 mm_81 mm_15 hd_P_isHitBy (by decide) qq_00 hP hD hK hS hA hT hN (q0 := 0) (ci := 1) rfl rfl [0, 1, 2] [] [0, 1, 2] rfl rfl rfl (by decide) rfl hl.1 rfl (Nat.le_of_ble_eq_true rfl) dd_G_isAllowed_65 (fun H locs hP hD hS => ?_)
                refine W.eq (g2 := F0 m 68 ls [.int r5]) rfl ?_
                refine lv_if_ne (tgt := 98) hx hb dd_G_isAllowed_68 (by decide) (fun hc => ?_) (fun hc => ?_)
                · replace hf := qq_f hc hf
                  exact hJ98  _ _ _ (lv_sub hl [] rfl) hP hD hS hf
                · replace hf := qq_t hc hf
                  refine lv_aload_n hx hb dd_G_isAllowed_71 rfl (lv_at hl 0 rfl) ?_
                  refine va_get (D := (dC, dI)) (ci := 1) (v := .ref osq) (C := RR_P) (T := FF_P) (N := 5) hx hb hts uu_P hown hK hP 0 rfl rfl 0 (by decide) (hts _ mm_188) (fun _ h9 => h9) rfl dd_G_isAllowed_72 ?_
                  refine lv_iload_n hx hb dd_G_isAllowed_75 rfl (lv_at hl 2 rfl) ?_
                  obtain ⟨r6, hy6, hf⟩ := qq_bd hf
                  refine qq_S (As := [.ref osq, .int a2]) (rest := []) (wr := [(oP, .inr (1, [.ref osq, .ref okg, .int sd, .int rt, .int ps])), (okg, .inl (cI, 2, .inl kg))]) (wf := [(oP, .inr (1, [.ref osq, .ref okg, .int sd, .int rt, .int ps])), (osq, .inl (cI, 64, .inl sq)), (okg, .inl (cI, 2, .inl kg))]) ⟨hx, hb, hml, hown, hts⟩ (ct_G_areRightsFair l dC dI cI cL cR osq sq a2 hy6) mm_196 mm_197 mm_195 mm_190 hd_G_areRightsFair (by decide) qq_00 hP hD hK hS hA hT hN [1] [0, 2] [0, 2, 1] rfl rfl rfl (by decide) rfl hl.1 rfl (Nat.le_of_ble_eq_true rfl) dd_G_isAllowed_76 (fun H locs hP hD hS => ?_)
                  refine W.eq (g2 := F0 m 79 ls [.int r6]) rfl ?_
                  refine lv_if_eq (tgt := 98) hx hb dd_G_isAllowed_79 (by decide) (fun hc => ?_) (fun hc => ?_)
                  · replace hf := qq_t hc hf
                    exact hJ98  _ _ _ (lv_sub hl [] rfl) hP hD hS hf
                  · replace hf := qq_f hc hf
                    refine lv_aload_n hx hb dd_G_isAllowed_82 rfl (lv_at hl 0 rfl) ?_
                    refine va_get (D := (dC, dI)) (ci := 1) (v := .ref osq) (C := RR_P) (T := FF_P) (N := 5) hx hb hts uu_P hown hK hP 0 rfl rfl 0 (by decide) (hts _ mm_188) (fun _ h9 => h9) rfl dd_G_isAllowed_83 ?_
                    refine lv_iload_n hx hb dd_G_isAllowed_86 rfl (lv_at hl 1 rfl) ?_
                    refine lv_iload_n hx hb dd_G_isAllowed_87 rfl (lv_at hl 3 rfl) ?_
                    obtain ⟨r7, hy7, hf⟩ := qq_bd hf
                    refine qq_S (As := [.ref osq, .int a1, .int a3]) (rest := []) (wr := [(oP, .inr (1, [.ref osq, .ref okg, .int sd, .int rt, .int ps])), (okg, .inl (cI, 2, .inl kg))]) (wf := [(oP, .inr (1, [.ref osq, .ref okg, .int sd, .int rt, .int ps])), (osq, .inl (cI, 64, .inl sq)), (okg, .inl (cI, 2, .inl kg))]) ⟨hx, hb, hml, hown, hts⟩ (ct_G_isPassedFair l dC dI cI cL cR osq sq a1 a3 hy7) mm_199 mm_200 mm_198 mm_190 hd_G_isPassedFair (by decide) qq_00 hP hD hK hS hA hT hN [1] [0, 2] [0, 2, 1] rfl rfl rfl (by decide) rfl hl.1 rfl (Nat.le_of_ble_eq_true rfl) dd_G_isAllowed_88 (fun H locs hP hD hS => ?_)
                    refine W.eq (g2 := F0 m 91 ls [.int r7]) rfl ?_
                    refine lv_if_eq (tgt := 98) hx hb dd_G_isAllowed_91 (by decide) (fun hc => ?_) (fun hc => ?_)
                    · replace hf := qq_t hc hf
                      exact hJ98  _ _ _ (lv_sub hl [] rfl) hP hD hS hf
                    · replace hf := qq_f hc hf
                      refine lv_iconst (v := 1) hx hb dd_G_isAllowed_94 (by decide) ?_
                      refine lv_goto (tgt := 99) hx hb dd_G_isAllowed_95 (by decide) ?_
                      exact hJ99 1 _ _ _ (lv_sub hl [] rfl) hP hD hS hf
theorem dd_H_isSameAsNow_0 : decode bb_H_isSameAsNow 0 = .ok (.aload_n 0, 1) := by decide +kernel
theorem dd_H_isSameAsNow_1 : decode bb_H_isSameAsNow 1 = .ok (.getfield 15, 3) := by decide +kernel
theorem dd_H_isSameAsNow_4 : decode bb_H_isSameAsNow 4 = .ok (.iload_n 1, 1) := by decide +kernel
theorem dd_H_isSameAsNow_5 : decode bb_H_isSameAsNow 5 = .ok (.iaload, 1) := by decide +kernel
theorem dd_H_isSameAsNow_6 : decode bb_H_isSameAsNow 6 = .ok (.aload_n 0, 1) := by decide +kernel
theorem dd_H_isSameAsNow_7 : decode bb_H_isSameAsNow 7 = .ok (.getfield 15, 3) := by decide +kernel
theorem dd_H_isSameAsNow_10 : decode bb_H_isSameAsNow 10 = .ok (.aload_n 0, 1) := by decide +kernel
theorem dd_H_isSameAsNow_11 : decode bb_H_isSameAsNow 11 = .ok (.getfield 28, 3) := by decide +kernel
theorem dd_H_isSameAsNow_14 : decode bb_H_isSameAsNow 14 = .ok (.iaload, 1) := by decide +kernel
theorem dd_H_isSameAsNow_15 : decode bb_H_isSameAsNow 15 = .ok (.if_icmp .ne 7, 3) := by decide +kernel
theorem dd_H_isSameAsNow_18 : decode bb_H_isSameAsNow 18 = .ok (.iconst 1, 1) := by decide +kernel
theorem dd_H_isSameAsNow_19 : decode bb_H_isSameAsNow 19 = .ok (.goto 4, 3) := by decide +kernel
theorem dd_H_isSameAsNow_22 : decode bb_H_isSameAsNow 22 = .ok (.iconst 0, 1) := by decide +kernel
theorem dd_H_isSameAsNow_23 : decode bb_H_isSameAsNow 23 = .ok (.istore_n 2, 1) := by decide +kernel
theorem dd_H_isSameAsNow_24 : decode bb_H_isSameAsNow 24 = .ok (.iconst 0, 1) := by decide +kernel
theorem dd_H_isSameAsNow_25 : decode bb_H_isSameAsNow 25 = .ok (.istore_n 3, 1) := by decide +kernel
theorem dd_H_isSameAsNow_26 : decode bb_H_isSameAsNow 26 = .ok (.iload_n 3, 1) := by decide +kernel
theorem dd_H_isSameAsNow_27 : decode bb_H_isSameAsNow 27 = .ok (.iconst 4, 1) := by decide +kernel
theorem dd_H_isSameAsNow_28 : decode bb_H_isSameAsNow 28 = .ok (.if_icmp .ge 46, 3) := by decide +kernel
theorem dd_H_isSameAsNow_31 : decode bb_H_isSameAsNow 31 = .ok (.iload_n 2, 1) := by decide +kernel
theorem dd_H_isSameAsNow_32 : decode bb_H_isSameAsNow 32 = .ok (.ifCond .eq 42, 3) := by decide +kernel
theorem dd_H_isSameAsNow_35 : decode bb_H_isSameAsNow 35 = .ok (.aload_n 0, 1) := by decide +kernel
theorem dd_H_isSameAsNow_36 : decode bb_H_isSameAsNow 36 = .ok (.getfield 11, 3) := by decide +kernel
theorem dd_H_isSameAsNow_39 : decode bb_H_isSameAsNow 39 = .ok (.iconst 4, 1) := by decide +kernel
theorem dd_H_isSameAsNow_40 : decode bb_H_isSameAsNow 40 = .ok (.iload_n 1, 1) := by decide +kernel
theorem dd_H_isSameAsNow_41 : decode bb_H_isSameAsNow 41 = .ok (.imul, 1) := by decide +kernel
theorem dd_H_isSameAsNow_42 : decode bb_H_isSameAsNow 42 = .ok (.iload_n 3, 1) := by decide +kernel
theorem dd_H_isSameAsNow_43 : decode bb_H_isSameAsNow 43 = .ok (.iadd, 1) := by decide +kernel
theorem dd_H_isSameAsNow_44 : decode bb_H_isSameAsNow 44 = .ok (.laload, 1) := by decide +kernel
theorem dd_H_isSameAsNow_45 : decode bb_H_isSameAsNow 45 = .ok (.aload_n 0, 1) := by decide +kernel
theorem dd_H_isSameAsNow_46 : decode bb_H_isSameAsNow 46 = .ok (.getfield 11, 3) := by decide +kernel
theorem dd_H_isSameAsNow_49 : decode bb_H_isSameAsNow 49 = .ok (.iconst 4, 1) := by decide +kernel
theorem dd_H_isSameAsNow_50 : decode bb_H_isSameAsNow 50 = .ok (.aload_n 0, 1) := by decide +kernel
theorem dd_H_isSameAsNow_51 : decode bb_H_isSameAsNow 51 = .ok (.getfield 28, 3) := by decide +kernel
theorem dd_H_isSameAsNow_54 : decode bb_H_isSameAsNow 54 = .ok (.imul, 1) := by decide +kernel
theorem dd_H_isSameAsNow_55 : decode bb_H_isSameAsNow 55 = .ok (.iload_n 3, 1) := by decide +kernel
theorem dd_H_isSameAsNow_56 : decode bb_H_isSameAsNow 56 = .ok (.iadd, 1) := by decide +kernel
theorem dd_H_isSameAsNow_57 : decode bb_H_isSameAsNow 57 = .ok (.laload, 1) := by decide +kernel
theorem dd_H_isSameAsNow_58 : decode bb_H_isSameAsNow 58 = .ok (.lcmp, 1) := by decide +kernel
theorem dd_H_isSameAsNow_59 : decode bb_H_isSameAsNow 59 = .ok (.ifCond .ne 7, 3) := by decide +kernel
theorem dd_H_isSameAsNow_62 : decode bb_H_isSameAsNow 62 = .ok (.iconst 1, 1) := by decide +kernel
theorem dd_H_isSameAsNow_63 : decode bb_H_isSameAsNow 63 = .ok (.goto 4, 3) := by decide +kernel
theorem dd_H_isSameAsNow_66 : decode bb_H_isSameAsNow 66 = .ok (.iconst 0, 1) := by decide +kernel
theorem dd_H_isSameAsNow_67 : decode bb_H_isSameAsNow 67 = .ok (.istore_n 2, 1) := by decide +kernel
theorem dd_H_isSameAsNow_68 : decode bb_H_isSameAsNow 68 = .ok (.iinc 3 1, 3) := by decide +kernel
theorem dd_H_isSameAsNow_71 : decode bb_H_isSameAsNow 71 = .ok (.goto (-45), 3) := by decide +kernel
theorem dd_H_isSameAsNow_74 : decode bb_H_isSameAsNow 74 = .ok (.iload_n 2, 1) := by decide +kernel
theorem dd_H_isSameAsNow_75 : decode bb_H_isSameAsNow 75 = .ok (.ireturn, 1) := by decide +kernel
abbrev ty_H_isSameAsNow : Type := Int32
noncomputable def bk_H_isSameAsNow_74 (md : Int32) (bo : Nat → Int64) (ma : Nat → Int32) (a1 : Int32) (x2 : Int32) : Option ty_H_isSameAsNow := qq_ck (qq_b x2) <| some x2
noncomputable def bk_H_isSameAsNow_67 (md : Int32) (bo : Nat → Int64) (ma : Nat → Int32) (a1 : Int32) (k26 : Int32 → Int32 → Option ty_H_isSameAsNow) (x3 : Int32) (s0 : Int32) : Option ty_H_isSameAsNow := qq_let (x3 + 1) fun v2001 => k26 s0 v2001
noncomputable def lo_H_isSameAsNow_26 (md : Int32) (bo : Nat → Int64) (ma : Nat → Int32) (a1 : Int32) : Nat → Int32 → Int32 → Option ty_H_isSameAsNow
  | 0, _, _ => none
  | n + 1, x2, x3 => if 4 ≤ x3 then (bk_H_isSameAsNow_74 md bo ma a1 x2) else (if x2 = 0 then (bk_H_isSameAsNow_74 md bo ma a1 x2) else (qq_ck (qq_in ((4 * a1) + x3) 604) <| qq_ck (qq_in ((4 * md) + x3) 604) <| if (lg_cmp (bo ((4 * a1) + x3).toNatClampNeg) (bo ((4 * md) + x3).toNatClampNeg)) = 0 then (bk_H_isSameAsNow_67 md bo ma a1 (lo_H_isSameAsNow_26 md bo ma a1 n) x3 1) else (bk_H_isSameAsNow_67 md bo ma a1 (lo_H_isSameAsNow_26 md bo ma a1 n) x3 0)))
theorem lo_H_isSameAsNow_26_z (md : Int32) (bo : Nat → Int64) (ma : Nat → Int32) (a1 : Int32) (x2 : Int32) (x3 : Int32) : lo_H_isSameAsNow_26 md bo ma a1 0 x2 x3 = none := rfl
theorem lo_H_isSameAsNow_26_s (md : Int32) (bo : Nat → Int64) (ma : Nat → Int32) (a1 : Int32) (x2 : Int32) (x3 : Int32) (n : Nat) : lo_H_isSameAsNow_26 md bo ma a1 (n + 1) x2 x3 = (if 4 ≤ x3 then (bk_H_isSameAsNow_74 md bo ma a1 x2) else (if x2 = 0 then (bk_H_isSameAsNow_74 md bo ma a1 x2) else (qq_ck (qq_in ((4 * a1) + x3) 604) <| qq_ck (qq_in ((4 * md) + x3) 604) <| if (lg_cmp (bo ((4 * a1) + x3).toNatClampNeg) (bo ((4 * md) + x3).toNatClampNeg)) = 0 then (bk_H_isSameAsNow_67 md bo ma a1 (lo_H_isSameAsNow_26 md bo ma a1 n) x3 1) else (bk_H_isSameAsNow_67 md bo ma a1 (lo_H_isSameAsNow_26 md bo ma a1 n) x3 0)))) := rfl
noncomputable def bk_H_isSameAsNow_23 (md : Int32) (bo : Nat → Int64) (ma : Nat → Int32) (a1 : Int32) (s0 : Int32) : Option ty_H_isSameAsNow := lo_H_isSameAsNow_26 md bo ma a1 qq_FU s0 0
noncomputable def fn_H_isSameAsNow (md : Int32) (bo : Nat → Int64) (ma : Nat → Int32) (a1 : Int32) : Option ty_H_isSameAsNow := qq_ck (qq_in a1 151) <| qq_ck (qq_in md 151) <| if (ma a1.toNatClampNeg) = (ma md.toNatClampNeg) then (bk_H_isSameAsNow_23 md bo ma a1 1) else (bk_H_isSameAsNow_23 md bo ma a1 0)
abbrev rm_H_isSameAsNow : Room := { frames := 0, cells := 0, slots := 0, locals := 0 }
set_option maxHeartbeats 4000000 in
set_option maxRecDepth 100000 in
theorem ct_H_isSameAsNow (l : Launch) (dC : Nat → ClassId) (dI : Nat → Nat → Nat) (cI cL cR : ClassId) (oH obo oma oqt oyc oyb : Nat) (md : Int32) (bo : Nat → Int64) (ma : Nat → Int32) (qt : Nat → Int32) (yc : Nat → Int32) (yb : Nat → Int32) (a1 : Int32) {rr : Int32} (hf : fn_H_isSameAsNow md bo ma a1 = some rr) : qq_det l yy_H_isSameAsNow (ww_of yy_H_isSameAsNow bb_H_isSameAsNow 4 (some .boolean)) rm_H_isSameAsNow (dC, dI) (qq_ty cI cL cR) [.ref oH, .int a1] [(oH, .inr (3, [.ref obo, .ref oma, .ref oqt, .ref oyc, .ref oyb, .int md])), (obo, .inl (cL, 604, .inr (.inl bo))), (oma, .inl (cI, 151, .inl ma)), (oqt, .inl (cI, 151, .inl qt)), (oyc, .inl (cI, 150, .inl yc)), (oyb, .inl (cI, 150, .inl yb))] (some (.int rr)) [(oH, .inr (3, [.ref obo, .ref oma, .ref oqt, .ref oyc, .ref oyb, .int md])), (obo, .inl (cL, 604, .inr (.inl bo))), (oma, .inl (cI, 151, .inl ma)), (oqt, .inl (cI, 151, .inl qt)), (oyc, .inl (cI, 150, .inl yc)), (oyb, .inl (cI, 150, .inl yb))] := by
  refine qq_of (own := RR_H) (by decide) rfl (Nat.le_of_ble_eq_true rfl) ?_
  intro p e s m below meth c A Q ls hx hb hml hr hlocks hown hts hK hA hT hN hP hD hS hl hQ
  have hl : lv_has ls 4 [(0, .ref oH), (1, .int a1)] := hl
  have hJ74 : ∀ (x2 : Int32) (H : Heap) (locs : List Loc) (ls : Array Slot), lv_has ls 4 [(2, .int x2)] → va_P (dC, dI) classes [(oH, .inr (3, [.ref obo, .ref oma, .ref oqt, .ref oyc, .ref oyb, .int md])), (obo, .inl (cL, 604, .inr (.inl bo))), (oma, .inl (cI, 151, .inl ma)), (oqt, .inl (cI, 151, .inl qt)), (oyc, .inl (cI, 150, .inl yc)), (oyb, .inl (cI, 150, .inl yb))] H → va_D A [(oH, .inr (3, [.ref obo, .ref oma, .ref oqt, .ref oyc, .ref oyb, .int md])), (obo, .inl (cL, 604, .inr (.inl bo))), (oma, .inl (cI, 151, .inl ma)), (oqt, .inl (cI, 151, .inl qt)), (oyc, .inl (cI, 150, .inl yc)), (oyb, .inl (cI, 150, .inl yb))] → va_S A s.heap H locs → bk_H_isSameAsNow_74 md bo ma a1 x2 = some rr → W p l e rm_H_isSameAsNow s m ([.ref oH, .int a1] : List Value).toArray below meth c H locs 0 0 Q (F0 m 74 ls []) := by
    intro x2 H locs ls hl hP hD hS hf
    rw [bk_H_isSameAsNow_74] at hf
    refine lv_iload_n hx hb dd_H_isSameAsNow_74 rfl (lv_at hl 0 rfl) ?_
    obtain ⟨hzb, hf⟩ := qq_ckE hf
    cases hf
    exact qq_zret hx hb hr (qq_bE hzb) hlocks hQ hP hD hK hS dd_H_isSameAsNow_75
  have hL26 : ∀ (n26 : Nat) (x2 : Int32) (x3 : Int32) (H : Heap) (locs : List Loc) (ls : Array Slot), lv_has ls 4 [(0, .ref oH), (1, .int a1), (2, .int x2), (3, .int x3)] → va_P (dC, dI) classes [(oH, .inr (3, [.ref obo, .ref oma, .ref oqt, .ref oyc, .ref oyb, .int md])), (obo, .inl (cL, 604, .inr (.inl bo))), (oma, .inl (cI, 151, .inl ma)), (oqt, .inl (cI, 151, .inl qt)), (oyc, .inl (cI, 150, .inl yc)), (oyb, .inl (cI, 150, .inl yb))] H → va_D A [(oH, .inr (3, [.ref obo, .ref oma, .ref oqt, .ref oyc, .ref oyb, .int md])), (obo, .inl (cL, 604, .inr (.inl bo))), (oma, .inl (cI, 151, .inl ma)), (oqt, .inl (cI, 151, .inl qt)), (oyc, .inl (cI, 150, .inl yc)), (oyb, .inl (cI, 150, .inl yb))] → va_S A s.heap H locs → lo_H_isSameAsNow_26 md bo ma a1 n26 x2 x3 = some rr → W p l e rm_H_isSameAsNow s m ([.ref oH, .int a1] : List Value).toArray below meth c H locs 0 0 Q (F0 m 26 ls []) := by
    intro n26
    induction n26 with
    | zero => exact fun x2 x3 H locs ls hl hP hD hS hf => absurd hf (by rw [lo_H_isSameAsNow_26_z]; exact fun h => by cases h)
    | succ n26 ih26 =>
      have hJ67 : ∀ (x3 : Int32) (s0 : Int32) (H : Heap) (locs : List Loc) (ls : Array Slot), lv_has ls 4 [(0, .ref oH), (1, .int a1), (3, .int x3)] → va_P (dC, dI) classes [(oH, .inr (3, [.ref obo, .ref oma, .ref oqt, .ref oyc, .ref oyb, .int md])), (obo, .inl (cL, 604, .inr (.inl bo))), (oma, .inl (cI, 151, .inl ma)), (oqt, .inl (cI, 151, .inl qt)), (oyc, .inl (cI, 150, .inl yc)), (oyb, .inl (cI, 150, .inl yb))] H → va_D A [(oH, .inr (3, [.ref obo, .ref oma, .ref oqt, .ref oyc, .ref oyb, .int md])), (obo, .inl (cL, 604, .inr (.inl bo))), (oma, .inl (cI, 151, .inl ma)), (oqt, .inl (cI, 151, .inl qt)), (oyc, .inl (cI, 150, .inl yc)), (oyb, .inl (cI, 150, .inl yb))] → va_S A s.heap H locs → bk_H_isSameAsNow_67 md bo ma a1 (lo_H_isSameAsNow_26 md bo ma a1 n26) x3 s0 = some rr → W p l e rm_H_isSameAsNow s m ([.ref oH, .int a1] : List Value).toArray below meth c H locs 0 0 Q (F0 m 67 ls [.int s0]) := by
        intro x3 s0 H locs ls hl hP hD hS hf
        rw [bk_H_isSameAsNow_67] at hf
        refine lv_istore_n (lv' := [(2, .int s0), (0, .ref oH), (1, .int a1), (3, .int x3)]) hx hb dd_H_isSameAsNow_67 rfl hl (by decide) rfl (fun ls hl => ?_)
        obtain ⟨v2001, ev2001⟩ : ∃ z, z = x3 + 1 := ⟨_, rfl⟩
        replace hf := qq_lt ev2001 hf
        refine lv_iinc (k := 3) (v := v2001) (lv' := [(3, .int v2001), (2, .int s0), (0, .ref oH), (1, .int a1)]) hx hb dd_H_isSameAsNow_68 hl rfl (by rw [ev2001]; exact congrArg _ (by decide)) (by decide) rfl (fun ls hl => ?_)
        refine lv_goto (tgt := 26) hx hb dd_H_isSameAsNow_71 (by decide) ?_
        exact ih26 s0 v2001 _ _ _ (lv_sub hl [2, 3, 1, 0] rfl) hP hD hS hf
      intro x2 x3 H locs ls hl hP hD hS hf
      rw [lo_H_isSameAsNow_26_s] at hf
      refine lv_iload_n hx hb dd_H_isSameAsNow_26 rfl (lv_at hl 3 rfl) ?_
      refine lv_iconst (v := 4) hx hb dd_H_isSameAsNow_27 (by decide) ?_
      refine lv_icmp_ge (tgt := 74) hx hb dd_H_isSameAsNow_28 (by decide) (fun hc => ?_) (fun hc => ?_)
      · replace hf := qq_t hc hf
        exact hJ74 x2 _ _ _ (lv_sub hl [2] rfl) hP hD hS hf
      · replace hf := qq_f hc hf
        refine lv_iload_n hx hb dd_H_isSameAsNow_31 rfl (lv_at hl 2 rfl) ?_
        refine lv_if_eq (tgt := 74) hx hb dd_H_isSameAsNow_32 (by decide) (fun hc => ?_) (fun hc => ?_)
        · replace hf := qq_t hc hf
          exact hJ74 x2 _ _ _ (lv_sub hl [2] rfl) hP hD hS hf
        · replace hf := qq_f hc hf
          refine lv_aload_n hx hb dd_H_isSameAsNow_35 rfl (lv_at hl 0 rfl) ?_
          refine va_get (D := (dC, dI)) (ci := 3) (v := .ref obo) (C := RR_H) (T := FF_H) (N := 6) hx hb hts uu_H hown hK hP 0 rfl rfl 0 (by decide) (hts _ mm_160) (fun _ h9 => h9) rfl dd_H_isSameAsNow_36 ?_
          refine lv_iconst (v := 4) hx hb dd_H_isSameAsNow_39 (by decide) ?_
          refine lv_iload_n hx hb dd_H_isSameAsNow_40 rfl (lv_at hl 1 rfl) ?_
          refine lv_imul hx hb dd_H_isSameAsNow_41 ?_
          refine lv_iload_n hx hb dd_H_isSameAsNow_42 rfl (lv_at hl 3 rfl) ?_
          refine lv_iadd hx hb dd_H_isSameAsNow_43 ?_
          obtain ⟨hi3001, hf⟩ := qq_ckE hf
          refine va_lald (D := (dC, dI)) (f := bo) (n := 604) (cA := cL) hx hb hK hP 1 1 rfl rfl (qq_inE hi3001) dd_H_isSameAsNow_44 ?_
          refine lv_aload_n hx hb dd_H_isSameAsNow_45 rfl (lv_at hl 0 rfl) ?_
          refine va_get (D := (dC, dI)) (ci := 3) (v := .ref obo) (C := RR_H) (T := FF_H) (N := 6) hx hb hts uu_H hown hK hP 0 rfl rfl 0 (by decide) (hts _ mm_160) (fun _ h9 => h9) rfl dd_H_isSameAsNow_46 ?_
          refine lv_iconst (v := 4) hx hb dd_H_isSameAsNow_49 (by decide) ?_
          refine lv_aload_n hx hb dd_H_isSameAsNow_50 rfl (lv_at hl 0 rfl) ?_
          refine va_get (D := (dC, dI)) (ci := 3) (v := .int md) (C := RR_H) (T := FF_H) (N := 6) hx hb hts uu_H hown hK hP 0 rfl rfl 5 (by decide) (hts _ mm_158) (fun _ h9 => h9) rfl dd_H_isSameAsNow_51 ?_
          refine lv_imul hx hb dd_H_isSameAsNow_54 ?_
          refine lv_iload_n hx hb dd_H_isSameAsNow_55 rfl (lv_at hl 3 rfl) ?_
          refine lv_iadd hx hb dd_H_isSameAsNow_56 ?_
          obtain ⟨hi3002, hf⟩ := qq_ckE hf
          refine va_lald (D := (dC, dI)) (f := bo) (n := 604) (cA := cL) hx hb hK hP 1 1 rfl rfl (qq_inE hi3002) dd_H_isSameAsNow_57 ?_
          refine W.lcmp hx hb dd_H_isSameAsNow_58 ?_
          refine lv_if_ne (tgt := 66) hx hb dd_H_isSameAsNow_59 (by decide) (fun hc => ?_) (fun hc => ?_)
          · replace hf := qq_f hc hf
            refine lv_iconst (v := 0) hx hb dd_H_isSameAsNow_66 (by decide) ?_
            exact hJ67 x3 0 _ _ _ (lv_sub hl [0, 1, 3] rfl) hP hD hS hf
          · replace hf := qq_t hc hf
            refine lv_iconst (v := 1) hx hb dd_H_isSameAsNow_62 (by decide) ?_
            refine lv_goto (tgt := 67) hx hb dd_H_isSameAsNow_63 (by decide) ?_
            exact hJ67 x3 1 _ _ _ (lv_sub hl [0, 1, 3] rfl) hP hD hS hf
  have hJ23 : ∀ (s0 : Int32) (H : Heap) (locs : List Loc) (ls : Array Slot), lv_has ls 4 [(0, .ref oH), (1, .int a1)] → va_P (dC, dI) classes [(oH, .inr (3, [.ref obo, .ref oma, .ref oqt, .ref oyc, .ref oyb, .int md])), (obo, .inl (cL, 604, .inr (.inl bo))), (oma, .inl (cI, 151, .inl ma)), (oqt, .inl (cI, 151, .inl qt)), (oyc, .inl (cI, 150, .inl yc)), (oyb, .inl (cI, 150, .inl yb))] H → va_D A [(oH, .inr (3, [.ref obo, .ref oma, .ref oqt, .ref oyc, .ref oyb, .int md])), (obo, .inl (cL, 604, .inr (.inl bo))), (oma, .inl (cI, 151, .inl ma)), (oqt, .inl (cI, 151, .inl qt)), (oyc, .inl (cI, 150, .inl yc)), (oyb, .inl (cI, 150, .inl yb))] → va_S A s.heap H locs → bk_H_isSameAsNow_23 md bo ma a1 s0 = some rr → W p l e rm_H_isSameAsNow s m ([.ref oH, .int a1] : List Value).toArray below meth c H locs 0 0 Q (F0 m 23 ls [.int s0]) := by
    intro s0 H locs ls hl hP hD hS hf
    rw [bk_H_isSameAsNow_23] at hf
    refine lv_istore_n (lv' := [(2, .int s0), (0, .ref oH), (1, .int a1)]) hx hb dd_H_isSameAsNow_23 rfl hl (by decide) rfl (fun ls hl => ?_)
    refine lv_iconst (v := 0) hx hb dd_H_isSameAsNow_24 (by decide) ?_
    refine lv_istore_n (lv' := [(3, .int 0), (2, .int s0), (0, .ref oH), (1, .int a1)]) hx hb dd_H_isSameAsNow_25 rfl hl (by decide) rfl (fun ls hl => ?_)
    exact hL26 qq_FU s0 0 _ _ _ (lv_sub hl [2, 3, 1, 0] rfl) hP hD hS hf
  rw [fn_H_isSameAsNow] at hf
  refine lv_aload_n hx hb dd_H_isSameAsNow_0 rfl (lv_at hl 0 rfl) ?_
  refine va_get (D := (dC, dI)) (ci := 3) (v := .ref oma) (C := RR_H) (T := FF_H) (N := 6) hx hb hts uu_H hown hK hP 0 rfl rfl 1 (by decide) (hts _ mm_166) (fun _ h9 => h9) rfl dd_H_isSameAsNow_1 ?_
  refine lv_iload_n hx hb dd_H_isSameAsNow_4 rfl (lv_at hl 1 rfl) ?_
  obtain ⟨hi1, hf⟩ := qq_ckE hf
  refine va_iald (D := (dC, dI)) (f := ma) (n := 151) (cA := cI) hx hb hK hP 2 0 rfl rfl (qq_inE hi1) dd_H_isSameAsNow_5 ?_
  refine lv_aload_n hx hb dd_H_isSameAsNow_6 rfl (lv_at hl 0 rfl) ?_
  refine va_get (D := (dC, dI)) (ci := 3) (v := .ref oma) (C := RR_H) (T := FF_H) (N := 6) hx hb hts uu_H hown hK hP 0 rfl rfl 1 (by decide) (hts _ mm_166) (fun _ h9 => h9) rfl dd_H_isSameAsNow_7 ?_
  refine lv_aload_n hx hb dd_H_isSameAsNow_10 rfl (lv_at hl 0 rfl) ?_
  refine va_get (D := (dC, dI)) (ci := 3) (v := .int md) (C := RR_H) (T := FF_H) (N := 6) hx hb hts uu_H hown hK hP 0 rfl rfl 5 (by decide) (hts _ mm_158) (fun _ h9 => h9) rfl dd_H_isSameAsNow_11 ?_
  obtain ⟨hi2, hf⟩ := qq_ckE hf
  refine va_iald (D := (dC, dI)) (f := ma) (n := 151) (cA := cI) hx hb hK hP 2 0 rfl rfl (qq_inE hi2) dd_H_isSameAsNow_14 ?_
  refine lv_icmp_ne (tgt := 22) hx hb dd_H_isSameAsNow_15 (by decide) (fun hc => ?_) (fun hc => ?_)
  · replace hf := qq_f hc hf
    refine lv_iconst (v := 0) hx hb dd_H_isSameAsNow_22 (by decide) ?_
    exact hJ23 0 _ _ _ (lv_sub hl [0, 1] rfl) hP hD hS hf
  · replace hf := qq_t hc hf
    refine lv_iconst (v := 1) hx hb dd_H_isSameAsNow_18 (by decide) ?_
    refine lv_goto (tgt := 23) hx hb dd_H_isSameAsNow_19 (by decide) ?_
    exact hJ23 1 _ _ _ (lv_sub hl [0, 1] rfl) hP hD hS hf
theorem dd_H_countSame_0 : decode bb_H_countSame 0 = .ok (.iconst 0, 1) := by decide +kernel
theorem dd_H_countSame_1 : decode bb_H_countSame 1 = .ok (.istore_n 1, 1) := by decide +kernel
theorem dd_H_countSame_2 : decode bb_H_countSame 2 = .ok (.iconst 0, 1) := by decide +kernel
theorem dd_H_countSame_3 : decode bb_H_countSame 3 = .ok (.istore_n 2, 1) := by decide +kernel
theorem dd_H_countSame_4 : decode bb_H_countSame 4 = .ok (.iload_n 2, 1) := by decide +kernel
theorem dd_H_countSame_5 : decode bb_H_countSame 5 = .ok (.aload_n 0, 1) := by decide +kernel
theorem dd_H_countSame_6 : decode bb_H_countSame 6 = .ok (.getfield 28, 3) := by decide +kernel
theorem dd_H_countSame_9 : decode bb_H_countSame 9 = .ok (.if_icmp .gt 20, 3) := by decide +kernel
theorem dd_H_countSame_12 : decode bb_H_countSame 12 = .ok (.aload_n 0, 1) := by decide +kernel
theorem dd_H_countSame_13 : decode bb_H_countSame 13 = .ok (.iload_n 2, 1) := by decide +kernel
theorem dd_H_countSame_14 : decode bb_H_countSame 14 = .ok (.invokevirtual 48, 3) := by decide +kernel
theorem dd_H_countSame_17 : decode bb_H_countSame 17 = .ok (.ifCond .eq 6, 3) := by decide +kernel
theorem dd_H_countSame_20 : decode bb_H_countSame 20 = .ok (.iinc 1 1, 3) := by decide +kernel
theorem dd_H_countSame_23 : decode bb_H_countSame 23 = .ok (.iinc 2 1, 3) := by decide +kernel
theorem dd_H_countSame_26 : decode bb_H_countSame 26 = .ok (.goto (-22), 3) := by decide +kernel
theorem dd_H_countSame_29 : decode bb_H_countSame 29 = .ok (.iload_n 1, 1) := by decide +kernel
theorem dd_H_countSame_30 : decode bb_H_countSame 30 = .ok (.ireturn, 1) := by decide +kernel
abbrev ty_H_countSame : Type := Int32
noncomputable def bk_H_countSame_23 (md : Int32) (bo : Nat → Int64) (ma : Nat → Int32) (k4 : Int32 → Int32 → Option ty_H_countSame) (x1 : Int32) (x2 : Int32) : Option ty_H_countSame := qq_let (x2 + 1) fun v1001 => k4 x1 v1001
noncomputable def lo_H_countSame_4 (md : Int32) (bo : Nat → Int64) (ma : Nat → Int32) : Nat → Int32 → Int32 → Option ty_H_countSame
  | 0, _, _ => none
  | n + 1, x1, x2 => if md < x2 then (some x1) else ((fn_H_isSameAsNow md bo ma x2).bind fun r2001 => if r2001 = 0 then (bk_H_countSame_23 md bo ma (lo_H_countSame_4 md bo ma n) x1 x2) else (qq_let (x1 + 1) fun v2002 => bk_H_countSame_23 md bo ma (lo_H_countSame_4 md bo ma n) v2002 x2))
theorem lo_H_countSame_4_z (md : Int32) (bo : Nat → Int64) (ma : Nat → Int32) (x1 : Int32) (x2 : Int32) : lo_H_countSame_4 md bo ma 0 x1 x2 = none := rfl
theorem lo_H_countSame_4_s (md : Int32) (bo : Nat → Int64) (ma : Nat → Int32) (x1 : Int32) (x2 : Int32) (n : Nat) : lo_H_countSame_4 md bo ma (n + 1) x1 x2 = (if md < x2 then (some x1) else ((fn_H_isSameAsNow md bo ma x2).bind fun r2001 => if r2001 = 0 then (bk_H_countSame_23 md bo ma (lo_H_countSame_4 md bo ma n) x1 x2) else (qq_let (x1 + 1) fun v2002 => bk_H_countSame_23 md bo ma (lo_H_countSame_4 md bo ma n) v2002 x2))) := rfl
noncomputable def fn_H_countSame (md : Int32) (bo : Nat → Int64) (ma : Nat → Int32) : Option ty_H_countSame := lo_H_countSame_4 md bo ma qq_FU 0 0
abbrev rm_H_countSame : Room := { frames := 1, cells := 0, slots := 0, locals := 23 }
set_option maxHeartbeats 4000000 in
set_option maxRecDepth 100000 in
theorem ct_H_countSame (l : Launch) (dC : Nat → ClassId) (dI : Nat → Nat → Nat) (cI cL cR : ClassId) (oH obo oma oqt oyc oyb : Nat) (md : Int32) (bo : Nat → Int64) (ma : Nat → Int32) (qt : Nat → Int32) (yc : Nat → Int32) (yb : Nat → Int32) {rr : Int32} (hf : fn_H_countSame md bo ma = some rr) : qq_det l yy_H_countSame (ww_of yy_H_countSame bb_H_countSame 3 (some .int)) rm_H_countSame (dC, dI) (qq_ty cI cL cR) [.ref oH] [(oH, .inr (3, [.ref obo, .ref oma, .ref oqt, .ref oyc, .ref oyb, .int md])), (obo, .inl (cL, 604, .inr (.inl bo))), (oma, .inl (cI, 151, .inl ma)), (oqt, .inl (cI, 151, .inl qt)), (oyc, .inl (cI, 150, .inl yc)), (oyb, .inl (cI, 150, .inl yb))] (some (.int rr)) [(oH, .inr (3, [.ref obo, .ref oma, .ref oqt, .ref oyc, .ref oyb, .int md])), (obo, .inl (cL, 604, .inr (.inl bo))), (oma, .inl (cI, 151, .inl ma)), (oqt, .inl (cI, 151, .inl qt)), (oyc, .inl (cI, 150, .inl yc)), (oyb, .inl (cI, 150, .inl yb))] := by
  refine qq_of (own := RR_H) (by decide) rfl (Nat.le_of_ble_eq_true rfl) ?_
  intro p e s m below meth c A Q ls hx hb hml hr hlocks hown hts hK hA hT hN hP hD hS hl hQ
  have hl : lv_has ls 3 [(0, .ref oH)] := hl
  have hL4 : ∀ (n4 : Nat) (x1 : Int32) (x2 : Int32) (H : Heap) (locs : List Loc) (ls : Array Slot), lv_has ls 3 [(0, .ref oH), (1, .int x1), (2, .int x2)] → va_P (dC, dI) classes [(oH, .inr (3, [.ref obo, .ref oma, .ref oqt, .ref oyc, .ref oyb, .int md])), (obo, .inl (cL, 604, .inr (.inl bo))), (oma, .inl (cI, 151, .inl ma)), (oqt, .inl (cI, 151, .inl qt)), (oyc, .inl (cI, 150, .inl yc)), (oyb, .inl (cI, 150, .inl yb))] H → va_D A [(oH, .inr (3, [.ref obo, .ref oma, .ref oqt, .ref oyc, .ref oyb, .int md])), (obo, .inl (cL, 604, .inr (.inl bo))), (oma, .inl (cI, 151, .inl ma)), (oqt, .inl (cI, 151, .inl qt)), (oyc, .inl (cI, 150, .inl yc)), (oyb, .inl (cI, 150, .inl yb))] → va_S A s.heap H locs → lo_H_countSame_4 md bo ma n4 x1 x2 = some rr → W p l e rm_H_countSame s m ([.ref oH] : List Value).toArray below meth c H locs 0 0 Q (F0 m 4 ls []) := by
    intro n4
    induction n4 with
    | zero => exact fun x1 x2 H locs ls hl hP hD hS hf => absurd hf (by rw [lo_H_countSame_4_z]; exact fun h => by cases h)
    | succ n4 ih4 =>
      have hJ23 : ∀ (x1 : Int32) (x2 : Int32) (H : Heap) (locs : List Loc) (ls : Array Slot), lv_has ls 3 [(0, .ref oH), (1, .int x1), (2, .int x2)] → va_P (dC, dI) classes [(oH, .inr (3, [.ref obo, .ref oma, .ref oqt, .ref oyc, .ref oyb, .int md])), (obo, .inl (cL, 604, .inr (.inl bo))), (oma, .inl (cI, 151, .inl ma)), (oqt, .inl (cI, 151, .inl qt)), (oyc, .inl (cI, 150, .inl yc)), (oyb, .inl (cI, 150, .inl yb))] H → va_D A [(oH, .inr (3, [.ref obo, .ref oma, .ref oqt, .ref oyc, .ref oyb, .int md])), (obo, .inl (cL, 604, .inr (.inl bo))), (oma, .inl (cI, 151, .inl ma)), (oqt, .inl (cI, 151, .inl qt)), (oyc, .inl (cI, 150, .inl yc)), (oyb, .inl (cI, 150, .inl yb))] → va_S A s.heap H locs → bk_H_countSame_23 md bo ma (lo_H_countSame_4 md bo ma n4) x1 x2 = some rr → W p l e rm_H_countSame s m ([.ref oH] : List Value).toArray below meth c H locs 0 0 Q (F0 m 23 ls []) := by
        intro x1 x2 H locs ls hl hP hD hS hf
        rw [bk_H_countSame_23] at hf
        obtain ⟨v1001, ev1001⟩ : ∃ z, z = x2 + 1 := ⟨_, rfl⟩
        replace hf := qq_lt ev1001 hf
        refine lv_iinc (k := 2) (v := v1001) (lv' := [(2, .int v1001), (0, .ref oH), (1, .int x1)]) hx hb dd_H_countSame_23 hl rfl (by rw [ev1001]; exact congrArg _ (by decide)) (by decide) rfl (fun ls hl => ?_)
        refine lv_goto (tgt := 4) hx hb dd_H_countSame_26 (by decide) ?_
        exact ih4 x1 v1001 _ _ _ (lv_sub hl [1, 2, 0] rfl) hP hD hS hf
      intro x1 x2 H locs ls hl hP hD hS hf
      rw [lo_H_countSame_4_s] at hf
      refine lv_iload_n hx hb dd_H_countSame_4 rfl (lv_at hl 2 rfl) ?_
      refine lv_aload_n hx hb dd_H_countSame_5 rfl (lv_at hl 0 rfl) ?_
      refine va_get (D := (dC, dI)) (ci := 3) (v := .int md) (C := RR_H) (T := FF_H) (N := 6) hx hb hts uu_H hown hK hP 0 rfl rfl 5 (by decide) (hts _ mm_158) (fun _ h9 => h9) rfl dd_H_countSame_6 ?_
      refine lv_icmp_gt (tgt := 29) hx hb dd_H_countSame_9 (by decide) (fun hc => ?_) (fun hc => ?_)
      · replace hf := qq_t hc hf
        refine lv_iload_n hx hb dd_H_countSame_29 rfl (lv_at hl 1 rfl) ?_
        cases hf
        exact qq_iret hx hb hr hlocks hQ hP hD hK hS dd_H_countSame_30
      · replace hf := qq_f hc hf
        refine lv_aload_n hx hb dd_H_countSame_12 rfl (lv_at hl 0 rfl) ?_
        refine lv_iload_n hx hb dd_H_countSame_13 rfl (lv_at hl 2 rfl) ?_
        obtain ⟨r2001, hy2001, hf⟩ := qq_bd hf
        refine qq_V (As := [.int x2]) (rest := []) (wr := []) (wf := [(oH, .inr (3, [.ref obo, .ref oma, .ref oqt, .ref oyc, .ref oyb, .int md])), (obo, .inl (cL, 604, .inr (.inl bo))), (oma, .inl (cI, 151, .inl ma)), (oqt, .inl (cI, 151, .inl qt)), (oyc, .inl (cI, 150, .inl yc)), (oyb, .inl (cI, 150, .inl yb))]) ⟨hx, hb, hml, hown, hts⟩ (ct_H_isSameAsNow l dC dI cI cL cR oH obo oma oqt oyc oyb md bo ma qt yc yb x2 hy2001) mm_202 mm_203 mm_204 mm_201 mm_163 hd_H_isSameAsNow (by decide) qq_00 hP hD hK hS hA hT hN (q0 := 0) (ci := 3) rfl rfl [0, 1, 2, 3, 4, 5] [] [0, 1, 2, 3, 4, 5] rfl rfl rfl (by decide) rfl hl.1 rfl (Nat.le_of_ble_eq_true rfl) dd_H_countSame_14 (fun H locs hP hD hS => ?_)
        refine W.eq (g2 := F0 m 17 ls [.int r2001]) rfl ?_
        refine lv_if_eq (tgt := 23) hx hb dd_H_countSame_17 (by decide) (fun hc => ?_) (fun hc => ?_)
        · replace hf := qq_t hc hf
          exact hJ23 x1 x2 _ _ _ (lv_sub hl [0, 1, 2] rfl) hP hD hS hf
        · replace hf := qq_f hc hf
          obtain ⟨v2002, ev2002⟩ : ∃ z, z = x1 + 1 := ⟨_, rfl⟩
          replace hf := qq_lt ev2002 hf
          refine lv_iinc (k := 1) (v := v2002) (lv' := [(1, .int v2002), (0, .ref oH), (2, .int x2)]) hx hb dd_H_countSame_20 hl rfl (by rw [ev2002]; exact congrArg _ (by decide)) (by decide) rfl (fun ls hl => ?_)
          exact hJ23 v2002 x2 _ _ _ (lv_sub hl [1, 0, 2] rfl) hP hD hS hf
  rw [fn_H_countSame] at hf
  refine lv_iconst (v := 0) hx hb dd_H_countSame_0 (by decide) ?_
  refine lv_istore_n (lv' := [(1, .int 0), (0, .ref oH)]) hx hb dd_H_countSame_1 rfl hl (by decide) rfl (fun ls hl => ?_)
  refine lv_iconst (v := 0) hx hb dd_H_countSame_2 (by decide) ?_
  refine lv_istore_n (lv' := [(2, .int 0), (1, .int 0), (0, .ref oH)]) hx hb dd_H_countSame_3 rfl hl (by decide) rfl (fun ls hl => ?_)
  exact hL4 qq_FU 0 0 _ _ _ (lv_sub hl [2, 1, 0] rfl) hP hD hS hf
theorem dd_H_makeMove_0 : decode bb_H_makeMove 0 = .ok (.aload_n 1, 1) := by decide +kernel
theorem dd_H_makeMove_1 : decode bb_H_makeMove 1 = .ok (.getfield 32, 3) := by decide +kernel
theorem dd_H_makeMove_4 : decode bb_H_makeMove 4 = .ok (.iload_n 2, 1) := by decide +kernel
theorem dd_H_makeMove_5 : decode bb_H_makeMove 5 = .ok (.bipush 63, 2) := by decide +kernel
theorem dd_H_makeMove_7 : decode bb_H_makeMove 7 = .ok (.iand, 1) := by decide +kernel
theorem dd_H_makeMove_8 : decode bb_H_makeMove 8 = .ok (.iaload, 1) := by decide +kernel
theorem dd_H_makeMove_9 : decode bb_H_makeMove 9 = .ok (.iconst 1, 1) := by decide +kernel
theorem dd_H_makeMove_10 : decode bb_H_makeMove 10 = .ok (.bipush 6, 2) := by decide +kernel
theorem dd_H_makeMove_12 : decode bb_H_makeMove 12 = .ok (.aload_n 1, 1) := by decide +kernel
theorem dd_H_makeMove_13 : decode bb_H_makeMove 13 = .ok (.getfield 37, 3) := by decide +kernel
theorem dd_H_makeMove_16 : decode bb_H_makeMove 16 = .ok (.imul, 1) := by decide +kernel
theorem dd_H_makeMove_17 : decode bb_H_makeMove 17 = .ok (.iadd, 1) := by decide +kernel
theorem dd_H_makeMove_18 : decode bb_H_makeMove 18 = .ok (.if_icmp .ne 7, 3) := by decide +kernel
theorem dd_H_makeMove_21 : decode bb_H_makeMove 21 = .ok (.iconst 1, 1) := by decide +kernel
theorem dd_H_makeMove_22 : decode bb_H_makeMove 22 = .ok (.goto 4, 3) := by decide +kernel
theorem dd_H_makeMove_25 : decode bb_H_makeMove 25 = .ok (.iconst 0, 1) := by decide +kernel
theorem dd_H_makeMove_26 : decode bb_H_makeMove 26 = .ok (.istore_n 3, 1) := by decide +kernel
theorem dd_H_makeMove_27 : decode bb_H_makeMove 27 = .ok (.aload_n 1, 1) := by decide +kernel
theorem dd_H_makeMove_28 : decode bb_H_makeMove 28 = .ok (.iload_n 2, 1) := by decide +kernel
theorem dd_H_makeMove_29 : decode bb_H_makeMove 29 = .ok (.invokevirtual 40, 3) := by decide +kernel
theorem dd_H_makeMove_32 : decode bb_H_makeMove 32 = .ok (.istore 4, 2) := by decide +kernel
theorem dd_H_makeMove_34 : decode bb_H_makeMove 34 = .ok (.iload 4, 2) := by decide +kernel
theorem dd_H_makeMove_36 : decode bb_H_makeMove 36 = .ok (.bipush 15, 2) := by decide +kernel
theorem dd_H_makeMove_38 : decode bb_H_makeMove 38 = .ok (.iand, 1) := by decide +kernel
theorem dd_H_makeMove_39 : decode bb_H_makeMove 39 = .ok (.ifCond .eq 7, 3) := by decide +kernel
theorem dd_H_makeMove_42 : decode bb_H_makeMove 42 = .ok (.iconst 1, 1) := by decide +kernel
theorem dd_H_makeMove_43 : decode bb_H_makeMove 43 = .ok (.goto 4, 3) := by decide +kernel
theorem dd_H_makeMove_46 : decode bb_H_makeMove 46 = .ok (.iconst 0, 1) := by decide +kernel
theorem dd_H_makeMove_47 : decode bb_H_makeMove 47 = .ok (.istore 5, 2) := by decide +kernel
theorem dd_H_makeMove_49 : decode bb_H_makeMove 49 = .ok (.aload_n 0, 1) := by decide +kernel
theorem dd_H_makeMove_50 : decode bb_H_makeMove 50 = .ok (.getfield 22, 3) := by decide +kernel
theorem dd_H_makeMove_53 : decode bb_H_makeMove 53 = .ok (.aload_n 0, 1) := by decide +kernel
theorem dd_H_makeMove_54 : decode bb_H_makeMove 54 = .ok (.getfield 28, 3) := by decide +kernel
theorem dd_H_makeMove_57 : decode bb_H_makeMove 57 = .ok (.iload_n 2, 1) := by decide +kernel
theorem dd_H_makeMove_58 : decode bb_H_makeMove 58 = .ok (.iastore, 1) := by decide +kernel
theorem dd_H_makeMove_59 : decode bb_H_makeMove 59 = .ok (.aload_n 0, 1) := by decide +kernel
theorem dd_H_makeMove_60 : decode bb_H_makeMove 60 = .ok (.getfield 25, 3) := by decide +kernel
theorem dd_H_makeMove_63 : decode bb_H_makeMove 63 = .ok (.aload_n 0, 1) := by decide +kernel
theorem dd_H_makeMove_64 : decode bb_H_makeMove 64 = .ok (.getfield 28, 3) := by decide +kernel
theorem dd_H_makeMove_67 : decode bb_H_makeMove 67 = .ok (.iload 4, 2) := by decide +kernel
theorem dd_H_makeMove_69 : decode bb_H_makeMove 69 = .ok (.iastore, 1) := by decide +kernel
theorem dd_H_makeMove_70 : decode bb_H_makeMove 70 = .ok (.aload_n 0, 1) := by decide +kernel
theorem dd_H_makeMove_71 : decode bb_H_makeMove 71 = .ok (.getfield 19, 3) := by decide +kernel
theorem dd_H_makeMove_74 : decode bb_H_makeMove 74 = .ok (.aload_n 0, 1) := by decide +kernel
theorem dd_H_makeMove_75 : decode bb_H_makeMove 75 = .ok (.getfield 28, 3) := by decide +kernel
theorem dd_H_makeMove_78 : decode bb_H_makeMove 78 = .ok (.iconst 1, 1) := by decide +kernel
theorem dd_H_makeMove_79 : decode bb_H_makeMove 79 = .ok (.iadd, 1) := by decide +kernel
theorem dd_H_makeMove_80 : decode bb_H_makeMove 80 = .ok (.iload_n 3, 1) := by decide +kernel
theorem dd_H_makeMove_81 : decode bb_H_makeMove 81 = .ok (.ifCond .ne 8, 3) := by decide +kernel
theorem dd_H_makeMove_84 : decode bb_H_makeMove 84 = .ok (.iload 5, 2) := by decide +kernel
theorem dd_H_makeMove_86 : decode bb_H_makeMove 86 = .ok (.ifCond .eq 7, 3) := by decide +kernel
theorem dd_H_makeMove_89 : decode bb_H_makeMove 89 = .ok (.iconst 0, 1) := by decide +kernel
theorem dd_H_makeMove_90 : decode bb_H_makeMove 90 = .ok (.goto 14, 3) := by decide +kernel
theorem dd_H_makeMove_93 : decode bb_H_makeMove 93 = .ok (.aload_n 0, 1) := by decide +kernel
theorem dd_H_makeMove_94 : decode bb_H_makeMove 94 = .ok (.getfield 19, 3) := by decide +kernel
theorem dd_H_makeMove_97 : decode bb_H_makeMove 97 = .ok (.aload_n 0, 1) := by decide +kernel
theorem dd_H_makeMove_98 : decode bb_H_makeMove 98 = .ok (.getfield 28, 3) := by decide +kernel
theorem dd_H_makeMove_101 : decode bb_H_makeMove 101 = .ok (.iaload, 1) := by decide +kernel
theorem dd_H_makeMove_102 : decode bb_H_makeMove 102 = .ok (.iconst 1, 1) := by decide +kernel
theorem dd_H_makeMove_103 : decode bb_H_makeMove 103 = .ok (.iadd, 1) := by decide +kernel
theorem dd_H_makeMove_104 : decode bb_H_makeMove 104 = .ok (.iastore, 1) := by decide +kernel
theorem dd_H_makeMove_105 : decode bb_H_makeMove 105 = .ok (.aload_n 0, 1) := by decide +kernel
theorem dd_H_makeMove_106 : decode bb_H_makeMove 106 = .ok (.dup, 1) := by decide +kernel
theorem dd_H_makeMove_107 : decode bb_H_makeMove 107 = .ok (.getfield 28, 3) := by decide +kernel
theorem dd_H_makeMove_110 : decode bb_H_makeMove 110 = .ok (.iconst 1, 1) := by decide +kernel
theorem dd_H_makeMove_111 : decode bb_H_makeMove 111 = .ok (.iadd, 1) := by decide +kernel
theorem dd_H_makeMove_112 : decode bb_H_makeMove 112 = .ok (.putfield 28, 3) := by decide +kernel
theorem dd_H_makeMove_115 : decode bb_H_makeMove 115 = .ok (.return_, 1) := by decide +kernel
abbrev ty_H_makeMove : Type := Int32 × (Nat → Int32) × (Nat → Int32) × (Nat → Int32) × Int32 × Int32 × Int32 × (Nat → Int32) × (Nat → Int32)
noncomputable def bk_H_makeMove_104 (a2 : Int32) (md : Int32) (qt : Nat → Int32) (yc : Nat → Int32) (yb : Nat → Int32) (sd : Int32) (rt : Int32) (ps : Int32) (sq : Nat → Int32) (kg : Nat → Int32) (s1 : Int32) (s2 : Int32) : Option ty_H_makeMove := qq_ck (qq_in s1 151) <| qq_let (upd qt s1.toNatClampNeg s2) fun qt_1002 => qq_let (md + 1) fun v1003 => some (v1003, qt_1002, yc, yb, sd, rt, ps, sq, kg)
noncomputable def bk_H_makeMove_89 (a2 : Int32) (md : Int32) (qt : Nat → Int32) (yc : Nat → Int32) (yb : Nat → Int32) (sd : Int32) (rt : Int32) (ps : Int32) (sq : Nat → Int32) (kg : Nat → Int32) (s1 : Int32) : Option ty_H_makeMove := bk_H_makeMove_104 a2 md qt yc yb sd rt ps sq kg s1 0
noncomputable def bk_H_makeMove_47 (a2 : Int32) (md : Int32) (qt : Nat → Int32) (yc : Nat → Int32) (yb : Nat → Int32) (sd : Int32) (rt : Int32) (ps : Int32) (sq : Nat → Int32) (kg : Nat → Int32) (x3 : Int32) (x4 : Int32) (s0 : Int32) : Option ty_H_makeMove := qq_ck (qq_in md 150) <| qq_let (upd yc md.toNatClampNeg a2) fun yc_3002 => qq_ck (qq_in md 150) <| qq_let (upd yb md.toNatClampNeg x4) fun yb_3004 => if x3 = 0 then (if s0 = 0 then (qq_ck (qq_in md 151) <| bk_H_makeMove_104 a2 md qt yc_3002 yb_3004 sd rt ps sq kg (md + 1) ((qt md.toNatClampNeg) + 1)) else (bk_H_makeMove_89 a2 md qt yc_3002 yb_3004 sd rt ps sq kg (md + 1))) else (bk_H_makeMove_89 a2 md qt yc_3002 yb_3004 sd rt ps sq kg (md + 1))
noncomputable def bk_H_makeMove_26 (a2 : Int32) (md : Int32) (qt : Nat → Int32) (yc : Nat → Int32) (yb : Nat → Int32) (sd : Int32) (rt : Int32) (ps : Int32) (sq : Nat → Int32) (kg : Nat → Int32) (s0 : Int32) : Option ty_H_makeMove := (fn_P_play sd rt ps sq kg a2).bind fun (r4001, sd_4002, rt_4003, ps_4004, sq_4005, kg_4006) => if (r4001 &&& 15) = 0 then (bk_H_makeMove_47 a2 md qt yc yb sd_4002 rt_4003 ps_4004 sq_4005 kg_4006 s0 r4001 0) else (bk_H_makeMove_47 a2 md qt yc yb sd_4002 rt_4003 ps_4004 sq_4005 kg_4006 s0 r4001 1)
noncomputable def fn_H_makeMove (md : Int32) (qt : Nat → Int32) (yc : Nat → Int32) (yb : Nat → Int32) (sd : Int32) (rt : Int32) (ps : Int32) (sq : Nat → Int32) (kg : Nat → Int32) (a2 : Int32) : Option ty_H_makeMove := qq_ck (qq_in (a2 &&& 63) 64) <| if (sq (a2 &&& 63).toNatClampNeg) = (1 + (6 * sd)) then (bk_H_makeMove_26 a2 md qt yc yb sd rt ps sq kg 1) else (bk_H_makeMove_26 a2 md qt yc yb sd rt ps sq kg 0)
abbrev rm_H_makeMove : Room := { frames := 3, cells := 0, slots := 0, locals := 68 }
set_option maxHeartbeats 4000000 in
set_option maxRecDepth 100000 in
theorem ct_H_makeMove (l : Launch) (dC : Nat → ClassId) (dI : Nat → Nat → Nat) (cI cL cR : ClassId) (oH obo oma oqt oyc oyb oP osq okg : Nat) (md : Int32) (bo : Nat → Int64) (ma : Nat → Int32) (qt : Nat → Int32) (yc : Nat → Int32) (yb : Nat → Int32) (sd : Int32) (rt : Int32) (ps : Int32) (sq : Nat → Int32) (kg : Nat → Int32) (a2 : Int32) {md' : Int32} {qt' : Nat → Int32} {yc' : Nat → Int32} {yb' : Nat → Int32} {sd' : Int32} {rt' : Int32} {ps' : Int32} {sq' : Nat → Int32} {kg' : Nat → Int32} (hf : fn_H_makeMove md qt yc yb sd rt ps sq kg a2 = some (md', qt', yc', yb', sd', rt', ps', sq', kg')) : qq_det l yy_H_makeMove (ww_of yy_H_makeMove bb_H_makeMove 6 none) rm_H_makeMove (dC, dI) (qq_ty cI cL cR) [.ref oH, .ref oP, .int a2] [(oH, .inr (3, [.ref obo, .ref oma, .ref oqt, .ref oyc, .ref oyb, .int md])), (obo, .inl (cL, 604, .inr (.inl bo))), (oma, .inl (cI, 151, .inl ma)), (oqt, .inl (cI, 151, .inl qt)), (oyc, .inl (cI, 150, .inl yc)), (oyb, .inl (cI, 150, .inl yb)), (oP, .inr (1, [.ref osq, .ref okg, .int sd, .int rt, .int ps])), (osq, .inl (cI, 64, .inl sq)), (okg, .inl (cI, 2, .inl kg))] none [(oH, .inr (3, [.ref obo, .ref oma, .ref oqt, .ref oyc, .ref oyb, .int md'])), (obo, .inl (cL, 604, .inr (.inl bo))), (oma, .inl (cI, 151, .inl ma)), (oqt, .inl (cI, 151, .inl qt')), (oyc, .inl (cI, 150, .inl yc')), (oyb, .inl (cI, 150, .inl yb')), (oP, .inr (1, [.ref osq, .ref okg, .int sd', .int rt', .int ps'])), (osq, .inl (cI, 64, .inl sq')), (okg, .inl (cI, 2, .inl kg'))] := by
  refine qq_of (own := RR_H) (by decide) rfl (Nat.le_of_ble_eq_true rfl) ?_
  intro p e s m below meth c A Q ls hx hb hml hr hlocks hown hts hK hA hT hN hP hD hS hl hQ
  have hl : lv_has ls 6 [(0, .ref oH), (1, .ref oP), (2, .int a2)] := hl
  have hJ104 : ∀ (md : Int32) (qt : Nat → Int32) (yc : Nat → Int32) (yb : Nat → Int32) (sd : Int32) (rt : Int32) (ps : Int32) (sq : Nat → Int32) (kg : Nat → Int32) (s1 : Int32) (s2 : Int32) (H : Heap) (locs : List Loc) (ls : Array Slot), lv_has ls 6 [(0, .ref oH)] → va_P (dC, dI) classes [(oH, .inr (3, [.ref obo, .ref oma, .ref oqt, .ref oyc, .ref oyb, .int md])), (obo, .inl (cL, 604, .inr (.inl bo))), (oma, .inl (cI, 151, .inl ma)), (oqt, .inl (cI, 151, .inl qt)), (oyc, .inl (cI, 150, .inl yc)), (oyb, .inl (cI, 150, .inl yb)), (oP, .inr (1, [.ref osq, .ref okg, .int sd, .int rt, .int ps])), (osq, .inl (cI, 64, .inl sq)), (okg, .inl (cI, 2, .inl kg))] H → va_D A [(oH, .inr (3, [.ref obo, .ref oma, .ref oqt, .ref oyc, .ref oyb, .int md])), (obo, .inl (cL, 604, .inr (.inl bo))), (oma, .inl (cI, 151, .inl ma)), (oqt, .inl (cI, 151, .inl qt)), (oyc, .inl (cI, 150, .inl yc)), (oyb, .inl (cI, 150, .inl yb)), (oP, .inr (1, [.ref osq, .ref okg, .int sd, .int rt, .int ps])), (osq, .inl (cI, 64, .inl sq)), (okg, .inl (cI, 2, .inl kg))] → va_S A s.heap H locs → bk_H_makeMove_104 a2 md qt yc yb sd rt ps sq kg s1 s2 = some (md', qt', yc', yb', sd', rt', ps', sq', kg') → W p l e rm_H_makeMove s m ([.ref oH, .ref oP, .int a2] : List Value).toArray below meth c H locs 0 0 Q (F0 m 104 ls [.int s2, .int s1, .ref oqt]) := by
    intro md qt yc yb sd rt ps sq kg s1 s2 H locs ls hl hP hD hS hf
    rw [bk_H_makeMove_104] at hf
    obtain ⟨hi1001, hf⟩ := qq_ckE hf
    refine va_iast (D := (dC, dI)) (f := qt) (n := 151) (cA := cI) hx hb hK hP hD hS 3 0 rfl rfl (qq_inE hi1001) dd_H_makeMove_104 (fun H locs hP hD hS => ?_)
    obtain ⟨qt_1002, eqt_1002⟩ : ∃ z, z = upd qt s1.toNatClampNeg s2 := ⟨_, rfl⟩
    replace hf := qq_lt eqt_1002 hf
    have hP : va_P (dC, dI) classes [(oH, .inr (3, [.ref obo, .ref oma, .ref oqt, .ref oyc, .ref oyb, .int md])), (obo, .inl (cL, 604, .inr (.inl bo))), (oma, .inl (cI, 151, .inl ma)), (oqt, .inl (cI, 151, .inl qt_1002)), (oyc, .inl (cI, 150, .inl yc)), (oyb, .inl (cI, 150, .inl yb)), (oP, .inr (1, [.ref osq, .ref okg, .int sd, .int rt, .int ps])), (osq, .inl (cI, 64, .inl sq)), (okg, .inl (cI, 2, .inl kg))] H := by rw [eqt_1002]; exact hP
    have hD : va_D A [(oH, .inr (3, [.ref obo, .ref oma, .ref oqt, .ref oyc, .ref oyb, .int md])), (obo, .inl (cL, 604, .inr (.inl bo))), (oma, .inl (cI, 151, .inl ma)), (oqt, .inl (cI, 151, .inl qt_1002)), (oyc, .inl (cI, 150, .inl yc)), (oyb, .inl (cI, 150, .inl yb)), (oP, .inr (1, [.ref osq, .ref okg, .int sd, .int rt, .int ps])), (osq, .inl (cI, 64, .inl sq)), (okg, .inl (cI, 2, .inl kg))] := by rw [eqt_1002]; exact hD
    refine lv_aload_n hx hb dd_H_makeMove_105 rfl (lv_at hl 0 rfl) ?_
    refine lv_dup hx hb dd_H_makeMove_106 rfl ?_
    refine va_get (D := (dC, dI)) (ci := 3) (v := .int md) (C := RR_H) (T := FF_H) (N := 6) hx hb hts uu_H hown hK hP 0 rfl rfl 5 (by decide) (hts _ mm_158) (fun _ h9 => h9) rfl dd_H_makeMove_107 ?_
    refine lv_iconst (v := 1) hx hb dd_H_makeMove_110 (by decide) ?_
    refine lv_iadd hx hb dd_H_makeMove_111 ?_
    refine lv_topi (fun v1003 ev1003 => ?_)
    replace hf := qq_lt ev1003 hf
    refine va_put (D := (dC, dI)) (ci := 3) (v := .int v1003) (ty := .int) (C := RR_H) (T := FF_H) (N := 6) hx hb hts uu_H tt_H tt_H_ok nn_H hown hK hP hD hS 0 rfl rfl 5 (by decide) (hts _ mm_158) (fun _ h9 => h9) rfl (by decide +kernel) rfl rfl (Nat.le_of_ble_eq_true rfl) dd_H_makeMove_112 (fun H locs hP hD hS => ?_)
    have hP : va_P (dC, dI) classes [(oH, .inr (3, [.ref obo, .ref oma, .ref oqt, .ref oyc, .ref oyb, .int v1003])), (obo, .inl (cL, 604, .inr (.inl bo))), (oma, .inl (cI, 151, .inl ma)), (oqt, .inl (cI, 151, .inl qt_1002)), (oyc, .inl (cI, 150, .inl yc)), (oyb, .inl (cI, 150, .inl yb)), (oP, .inr (1, [.ref osq, .ref okg, .int sd, .int rt, .int ps])), (osq, .inl (cI, 64, .inl sq)), (okg, .inl (cI, 2, .inl kg))] H := hP
    have hD : va_D A [(oH, .inr (3, [.ref obo, .ref oma, .ref oqt, .ref oyc, .ref oyb, .int v1003])), (obo, .inl (cL, 604, .inr (.inl bo))), (oma, .inl (cI, 151, .inl ma)), (oqt, .inl (cI, 151, .inl qt_1002)), (oyc, .inl (cI, 150, .inl yc)), (oyb, .inl (cI, 150, .inl yb)), (oP, .inr (1, [.ref osq, .ref okg, .int sd, .int rt, .int ps])), (osq, .inl (cI, 64, .inl sq)), (okg, .inl (cI, 2, .inl kg))] := hD
    cases hf
    exact qq_vret hx hb hr hlocks hQ hP hD hK hS dd_H_makeMove_115
  have hJ89 : ∀ (md : Int32) (qt : Nat → Int32) (yc : Nat → Int32) (yb : Nat → Int32) (sd : Int32) (rt : Int32) (ps : Int32) (sq : Nat → Int32) (kg : Nat → Int32) (s1 : Int32) (H : Heap) (locs : List Loc) (ls : Array Slot), lv_has ls 6 [(0, .ref oH)] → va_P (dC, dI) classes [(oH, .inr (3, [.ref obo, .ref oma, .ref oqt, .ref oyc, .ref oyb, .int md])), (obo, .inl (cL, 604, .inr (.inl bo))), (oma, .inl (cI, 151, .inl ma)), (oqt, .inl (cI, 151, .inl qt)), (oyc, .inl (cI, 150, .inl yc)), (oyb, .inl (cI, 150, .inl yb)), (oP, .inr (1, [.ref osq, .ref okg, .int sd, .int rt, .int ps])), (osq, .inl (cI, 64, .inl sq)), (okg, .inl (cI, 2, .inl kg))] H → va_D A [(oH, .inr (3, [.ref obo, .ref oma, .ref oqt, .ref oyc, .ref oyb, .int md])), (obo, .inl (cL, 604, .inr (.inl bo))), (oma, .inl (cI, 151, .inl ma)), (oqt, .inl (cI, 151, .inl qt)), (oyc, .inl (cI, 150, .inl yc)), (oyb, .inl (cI, 150, .inl yb)), (oP, .inr (1, [.ref osq, .ref okg, .int sd, .int rt, .int ps])), (osq, .inl (cI, 64, .inl sq)), (okg, .inl (cI, 2, .inl kg))] → va_S A s.heap H locs → bk_H_makeMove_89 a2 md qt yc yb sd rt ps sq kg s1 = some (md', qt', yc', yb', sd', rt', ps', sq', kg') → W p l e rm_H_makeMove s m ([.ref oH, .ref oP, .int a2] : List Value).toArray below meth c H locs 0 0 Q (F0 m 89 ls [.int s1, .ref oqt]) := by
    intro md qt yc yb sd rt ps sq kg s1 H locs ls hl hP hD hS hf
    rw [bk_H_makeMove_89] at hf
    refine lv_iconst (v := 0) hx hb dd_H_makeMove_89 (by decide) ?_
    refine lv_goto (tgt := 104) hx hb dd_H_makeMove_90 (by decide) ?_
    exact hJ104 md qt yc yb sd rt ps sq kg s1 0 _ _ _ (lv_sub hl [0] rfl) hP hD hS hf
  have hJ47 : ∀ (md : Int32) (qt : Nat → Int32) (yc : Nat → Int32) (yb : Nat → Int32) (sd : Int32) (rt : Int32) (ps : Int32) (sq : Nat → Int32) (kg : Nat → Int32) (x3 : Int32) (x4 : Int32) (s0 : Int32) (H : Heap) (locs : List Loc) (ls : Array Slot), lv_has ls 6 [(0, .ref oH), (2, .int a2), (3, .int x3), (4, .int x4)] → va_P (dC, dI) classes [(oH, .inr (3, [.ref obo, .ref oma, .ref oqt, .ref oyc, .ref oyb, .int md])), (obo, .inl (cL, 604, .inr (.inl bo))), (oma, .inl (cI, 151, .inl ma)), (oqt, .inl (cI, 151, .inl qt)), (oyc, .inl (cI, 150, .inl yc)), (oyb, .inl (cI, 150, .inl yb)), (oP, .inr (1, [.ref osq, .ref okg, .int sd, .int rt, .int ps])), (osq, .inl (cI, 64, .inl sq)), (okg, .inl (cI, 2, .inl kg))] H → va_D A [(oH, .inr (3, [.ref obo, .ref oma, .ref oqt, .ref oyc, .ref oyb, .int md])), (obo, .inl (cL, 604, .inr (.inl bo))), (oma, .inl (cI, 151, .inl ma)), (oqt, .inl (cI, 151, .inl qt)), (oyc, .inl (cI, 150, .inl yc)), (oyb, .inl (cI, 150, .inl yb)), (oP, .inr (1, [.ref osq, .ref okg, .int sd, .int rt, .int ps])), (osq, .inl (cI, 64, .inl sq)), (okg, .inl (cI, 2, .inl kg))] → va_S A s.heap H locs → bk_H_makeMove_47 a2 md qt yc yb sd rt ps sq kg x3 x4 s0 = some (md', qt', yc', yb', sd', rt', ps', sq', kg') → W p l e rm_H_makeMove s m ([.ref oH, .ref oP, .int a2] : List Value).toArray below meth c H locs 0 0 Q (F0 m 47 ls [.int s0]) := by
    intro md qt yc yb sd rt ps sq kg x3 x4 s0 H locs ls hl hP hD hS hf
    rw [bk_H_makeMove_47] at hf
    refine lv_istore (lv' := [(5, .int s0), (0, .ref oH), (2, .int a2), (3, .int x3), (4, .int x4)]) hx hb dd_H_makeMove_47 hl (by decide) rfl (fun ls hl => ?_)
    refine lv_aload_n hx hb dd_H_makeMove_49 rfl (lv_at hl 1 rfl) ?_
    refine va_get (D := (dC, dI)) (ci := 3) (v := .ref oyc) (C := RR_H) (T := FF_H) (N := 6) hx hb hts uu_H hown hK hP 0 rfl rfl 3 (by decide) (hts _ mm_205) (fun _ h9 => h9) rfl dd_H_makeMove_50 ?_
    refine lv_aload_n hx hb dd_H_makeMove_53 rfl (lv_at hl 1 rfl) ?_
    refine va_get (D := (dC, dI)) (ci := 3) (v := .int md) (C := RR_H) (T := FF_H) (N := 6) hx hb hts uu_H hown hK hP 0 rfl rfl 5 (by decide) (hts _ mm_158) (fun _ h9 => h9) rfl dd_H_makeMove_54 ?_
    refine lv_iload_n hx hb dd_H_makeMove_57 rfl (lv_at hl 2 rfl) ?_
    obtain ⟨hi3001, hf⟩ := qq_ckE hf
    refine va_iast (D := (dC, dI)) (f := yc) (n := 150) (cA := cI) hx hb hK hP hD hS 4 0 rfl rfl (qq_inE hi3001) dd_H_makeMove_58 (fun H locs hP hD hS => ?_)
    obtain ⟨yc_3002, eyc_3002⟩ : ∃ z, z = upd yc md.toNatClampNeg a2 := ⟨_, rfl⟩
    replace hf := qq_lt eyc_3002 hf
    have hP : va_P (dC, dI) classes [(oH, .inr (3, [.ref obo, .ref oma, .ref oqt, .ref oyc, .ref oyb, .int md])), (obo, .inl (cL, 604, .inr (.inl bo))), (oma, .inl (cI, 151, .inl ma)), (oqt, .inl (cI, 151, .inl qt)), (oyc, .inl (cI, 150, .inl yc_3002)), (oyb, .inl (cI, 150, .inl yb)), (oP, .inr (1, [.ref osq, .ref okg, .int sd, .int rt, .int ps])), (osq, .inl (cI, 64, .inl sq)), (okg, .inl (cI, 2, .inl kg))] H := by rw [eyc_3002]; exact hP
    have hD : va_D A [(oH, .inr (3, [.ref obo, .ref oma, .ref oqt, .ref oyc, .ref oyb, .int md])), (obo, .inl (cL, 604, .inr (.inl bo))), (oma, .inl (cI, 151, .inl ma)), (oqt, .inl (cI, 151, .inl qt)), (oyc, .inl (cI, 150, .inl yc_3002)), (oyb, .inl (cI, 150, .inl yb)), (oP, .inr (1, [.ref osq, .ref okg, .int sd, .int rt, .int ps])), (osq, .inl (cI, 64, .inl sq)), (okg, .inl (cI, 2, .inl kg))] := by rw [eyc_3002]; exact hD
    refine lv_aload_n hx hb dd_H_makeMove_59 rfl (lv_at hl 1 rfl) ?_
    refine va_get (D := (dC, dI)) (ci := 3) (v := .ref oyb) (C := RR_H) (T := FF_H) (N := 6) hx hb hts uu_H hown hK hP 0 rfl rfl 4 (by decide) (hts _ mm_206) (fun _ h9 => h9) rfl dd_H_makeMove_60 ?_
    refine lv_aload_n hx hb dd_H_makeMove_63 rfl (lv_at hl 1 rfl) ?_
    refine va_get (D := (dC, dI)) (ci := 3) (v := .int md) (C := RR_H) (T := FF_H) (N := 6) hx hb hts uu_H hown hK hP 0 rfl rfl 5 (by decide) (hts _ mm_158) (fun _ h9 => h9) rfl dd_H_makeMove_64 ?_
    refine lv_iload hx hb dd_H_makeMove_67 (lv_at hl 4 rfl) ?_
    obtain ⟨hi3003, hf⟩ := qq_ckE hf
    refine va_iast (D := (dC, dI)) (f := yb) (n := 150) (cA := cI) hx hb hK hP hD hS 5 0 rfl rfl (qq_inE hi3003) dd_H_makeMove_69 (fun H locs hP hD hS => ?_)
    obtain ⟨yb_3004, eyb_3004⟩ : ∃ z, z = upd yb md.toNatClampNeg x4 := ⟨_, rfl⟩
    replace hf := qq_lt eyb_3004 hf
    have hP : va_P (dC, dI) classes [(oH, .inr (3, [.ref obo, .ref oma, .ref oqt, .ref oyc, .ref oyb, .int md])), (obo, .inl (cL, 604, .inr (.inl bo))), (oma, .inl (cI, 151, .inl ma)), (oqt, .inl (cI, 151, .inl qt)), (oyc, .inl (cI, 150, .inl yc_3002)), (oyb, .inl (cI, 150, .inl yb_3004)), (oP, .inr (1, [.ref osq, .ref okg, .int sd, .int rt, .int ps])), (osq, .inl (cI, 64, .inl sq)), (okg, .inl (cI, 2, .inl kg))] H := by rw [eyb_3004]; exact hP
    have hD : va_D A [(oH, .inr (3, [.ref obo, .ref oma, .ref oqt, .ref oyc, .ref oyb, .int md])), (obo, .inl (cL, 604, .inr (.inl bo))), (oma, .inl (cI, 151, .inl ma)), (oqt, .inl (cI, 151, .inl qt)), (oyc, .inl (cI, 150, .inl yc_3002)), (oyb, .inl (cI, 150, .inl yb_3004)), (oP, .inr (1, [.ref osq, .ref okg, .int sd, .int rt, .int ps])), (osq, .inl (cI, 64, .inl sq)), (okg, .inl (cI, 2, .inl kg))] := by rw [eyb_3004]; exact hD
    refine lv_aload_n hx hb dd_H_makeMove_70 rfl (lv_at hl 1 rfl) ?_
    refine va_get (D := (dC, dI)) (ci := 3) (v := .ref oqt) (C := RR_H) (T := FF_H) (N := 6) hx hb hts uu_H hown hK hP 0 rfl rfl 2 (by decide) (hts _ mm_159) (fun _ h9 => h9) rfl dd_H_makeMove_71 ?_
    refine lv_aload_n hx hb dd_H_makeMove_74 rfl (lv_at hl 1 rfl) ?_
    refine va_get (D := (dC, dI)) (ci := 3) (v := .int md) (C := RR_H) (T := FF_H) (N := 6) hx hb hts uu_H hown hK hP 0 rfl rfl 5 (by decide) (hts _ mm_158) (fun _ h9 => h9) rfl dd_H_makeMove_75 ?_
    refine lv_iconst (v := 1) hx hb dd_H_makeMove_78 (by decide) ?_
    refine lv_iadd hx hb dd_H_makeMove_79 ?_
    refine lv_iload_n hx hb dd_H_makeMove_80 rfl (lv_at hl 3 rfl) ?_
    refine lv_if_ne (tgt := 89) hx hb dd_H_makeMove_81 (by decide) (fun hc => ?_) (fun hc => ?_)
    · replace hf := qq_f hc hf
      exact hJ89 md qt yc_3002 yb_3004 sd rt ps sq kg (md + 1) _ _ _ (lv_sub hl [1] rfl) hP hD hS hf
    · replace hf := qq_t hc hf
      refine lv_iload hx hb dd_H_makeMove_84 (lv_at hl 0 rfl) ?_
      refine lv_if_eq (tgt := 93) hx hb dd_H_makeMove_86 (by decide) (fun hc => ?_) (fun hc => ?_)
      · replace hf := qq_t hc hf
        refine lv_aload_n hx hb dd_H_makeMove_93 rfl (lv_at hl 1 rfl) ?_
        refine va_get (D := (dC, dI)) (ci := 3) (v := .ref oqt) (C := RR_H) (T := FF_H) (N := 6) hx hb hts uu_H hown hK hP 0 rfl rfl 2 (by decide) (hts _ mm_159) (fun _ h9 => h9) rfl dd_H_makeMove_94 ?_
        refine lv_aload_n hx hb dd_H_makeMove_97 rfl (lv_at hl 1 rfl) ?_
        refine va_get (D := (dC, dI)) (ci := 3) (v := .int md) (C := RR_H) (T := FF_H) (N := 6) hx hb hts uu_H hown hK hP 0 rfl rfl 5 (by decide) (hts _ mm_158) (fun _ h9 => h9) rfl dd_H_makeMove_98 ?_
        obtain ⟨hi3005, hf⟩ := qq_ckE hf
        refine va_iald (D := (dC, dI)) (f := qt) (n := 151) (cA := cI) hx hb hK hP 3 0 rfl rfl (qq_inE hi3005) dd_H_makeMove_101 ?_
        refine lv_iconst (v := 1) hx hb dd_H_makeMove_102 (by decide) ?_
        refine lv_iadd hx hb dd_H_makeMove_103 ?_
        exact hJ104 md qt yc_3002 yb_3004 sd rt ps sq kg (md + 1) ((qt md.toNatClampNeg) + 1) _ _ _ (lv_sub hl [1] rfl) hP hD hS hf
      · replace hf := qq_f hc hf
        exact hJ89 md qt yc_3002 yb_3004 sd rt ps sq kg (md + 1) _ _ _ (lv_sub hl [1] rfl) hP hD hS hf
  have hJ26 : ∀ (md : Int32) (qt : Nat → Int32) (yc : Nat → Int32) (yb : Nat → Int32) (sd : Int32) (rt : Int32) (ps : Int32) (sq : Nat → Int32) (kg : Nat → Int32) (s0 : Int32) (H : Heap) (locs : List Loc) (ls : Array Slot), lv_has ls 6 [(0, .ref oH), (1, .ref oP), (2, .int a2)] → va_P (dC, dI) classes [(oH, .inr (3, [.ref obo, .ref oma, .ref oqt, .ref oyc, .ref oyb, .int md])), (obo, .inl (cL, 604, .inr (.inl bo))), (oma, .inl (cI, 151, .inl ma)), (oqt, .inl (cI, 151, .inl qt)), (oyc, .inl (cI, 150, .inl yc)), (oyb, .inl (cI, 150, .inl yb)), (oP, .inr (1, [.ref osq, .ref okg, .int sd, .int rt, .int ps])), (osq, .inl (cI, 64, .inl sq)), (okg, .inl (cI, 2, .inl kg))] H → va_D A [(oH, .inr (3, [.ref obo, .ref oma, .ref oqt, .ref oyc, .ref oyb, .int md])), (obo, .inl (cL, 604, .inr (.inl bo))), (oma, .inl (cI, 151, .inl ma)), (oqt, .inl (cI, 151, .inl qt)), (oyc, .inl (cI, 150, .inl yc)), (oyb, .inl (cI, 150, .inl yb)), (oP, .inr (1, [.ref osq, .ref okg, .int sd, .int rt, .int ps])), (osq, .inl (cI, 64, .inl sq)), (okg, .inl (cI, 2, .inl kg))] → va_S A s.heap H locs → bk_H_makeMove_26 a2 md qt yc yb sd rt ps sq kg s0 = some (md', qt', yc', yb', sd', rt', ps', sq', kg') → W p l e rm_H_makeMove s m ([.ref oH, .ref oP, .int a2] : List Value).toArray below meth c H locs 0 0 Q (F0 m 26 ls [.int s0]) := by
    intro md qt yc yb sd rt ps sq kg s0 H locs ls hl hP hD hS hf
    rw [bk_H_makeMove_26] at hf
    refine lv_istore_n (lv' := [(3, .int s0), (0, .ref oH), (1, .ref oP), (2, .int a2)]) hx hb dd_H_makeMove_26 rfl hl (by decide) rfl (fun ls hl => ?_)
    refine lv_aload_n hx hb dd_H_makeMove_27 rfl (lv_at hl 2 rfl) ?_
    refine lv_iload_n hx hb dd_H_makeMove_28 rfl (lv_at hl 3 rfl) ?_
    obtain ⟨⟨r4001, sd_4002, rt_4003, ps_4004, sq_4005, kg_4006⟩, hy4006, hf⟩ := qq_bd hf
    dsimp only at hf
    refine qq_V (As := [.int a2]) (rest := []) (wr := [(oH, .inr (3, [.ref obo, .ref oma, .ref oqt, .ref oyc, .ref oyb, .int md])), (obo, .inl (cL, 604, .inr (.inl bo))), (oma, .inl (cI, 151, .inl ma)), (oqt, .inl (cI, 151, .inl qt)), (oyc, .inl (cI, 150, .inl yc)), (oyb, .inl (cI, 150, .inl yb))]) (wf := [(oH, .inr (3, [.ref obo, .ref oma, .ref oqt, .ref oyc, .ref oyb, .int md])), (obo, .inl (cL, 604, .inr (.inl bo))), (oma, .inl (cI, 151, .inl ma)), (oqt, .inl (cI, 151, .inl qt)), (oyc, .inl (cI, 150, .inl yc)), (oyb, .inl (cI, 150, .inl yb)), (oP, .inr (1, [.ref osq, .ref okg, .int sd_4002, .int rt_4003, .int ps_4004])), (osq, .inl (cI, 64, .inl sq_4005)), (okg, .inl (cI, 2, .inl kg_4006))]) ⟨hx, hb, hml, hown, hts⟩ (ct_P_play l dC dI cI cL cR oP osq okg sd rt ps sq kg a2 hy4006) mm_207 mm_132 mm_133 mm_130 mm_15 hd_P_play (by decide) qq_00 hP hD hK hS hA hT hN (q0 := 6) (ci := 1) rfl rfl [6, 7, 8] [0, 1, 2, 3, 4, 5] [0, 1, 2, 3, 4, 5, 6, 7, 8] rfl rfl rfl (by decide) rfl hl.1 rfl (Nat.le_of_ble_eq_true rfl) dd_H_makeMove_29 (fun H locs hP hD hS => ?_)
    refine W.eq (g2 := F0 m 32 ls [.int r4001]) rfl ?_
    refine lv_istore (lv' := [(4, .int r4001), (3, .int s0), (0, .ref oH), (1, .ref oP), (2, .int a2)]) hx hb dd_H_makeMove_32 hl (by decide) rfl (fun ls hl => ?_)
    refine lv_iload hx hb dd_H_makeMove_34 (lv_at hl 0 rfl) ?_
    refine lv_bipush (v := 15) hx hb dd_H_makeMove_36 (by decide) ?_
    refine lv_iand hx hb dd_H_makeMove_38 ?_
    refine lv_if_eq (tgt := 46) hx hb dd_H_makeMove_39 (by decide) (fun hc => ?_) (fun hc => ?_)
    · replace hf := qq_t hc hf
      refine lv_iconst (v := 0) hx hb dd_H_makeMove_46 (by decide) ?_
      exact hJ47 md qt yc yb sd_4002 rt_4003 ps_4004 sq_4005 kg_4006 s0 r4001 0 _ _ _ (lv_sub hl [2, 4, 1, 0] rfl) hP hD hS hf
    · replace hf := qq_f hc hf
      refine lv_iconst (v := 1) hx hb dd_H_makeMove_42 (by decide) ?_
      refine lv_goto (tgt := 47) hx hb dd_H_makeMove_43 (by decide) ?_
      exact hJ47 md qt yc yb sd_4002 rt_4003 ps_4004 sq_4005 kg_4006 s0 r4001 1 _ _ _ (lv_sub hl [2, 4, 1, 0] rfl) hP hD hS hf
  rw [fn_H_makeMove] at hf
  refine lv_aload_n hx hb dd_H_makeMove_0 rfl (lv_at hl 1 rfl) ?_
  refine va_get (D := (dC, dI)) (ci := 1) (v := .ref osq) (C := RR_P) (T := FF_P) (N := 5) hx hb hts uu_P hown hK hP 6 rfl rfl 0 (by decide) (hts _ mm_161) (fun _ h9 => h9) rfl dd_H_makeMove_1 ?_
  refine lv_iload_n hx hb dd_H_makeMove_4 rfl (lv_at hl 2 rfl) ?_
  refine lv_bipush (v := 63) hx hb dd_H_makeMove_5 (by decide) ?_
  refine lv_iand hx hb dd_H_makeMove_7 ?_
  obtain ⟨hi1, hf⟩ := qq_ckE hf
  refine va_iald (D := (dC, dI)) (f := sq) (n := 64) (cA := cI) hx hb hK hP 7 0 rfl rfl (qq_inE hi1) dd_H_makeMove_8 ?_
  refine lv_iconst (v := 1) hx hb dd_H_makeMove_9 (by decide) ?_
  refine lv_bipush (v := 6) hx hb dd_H_makeMove_10 (by decide) ?_
  refine lv_aload_n hx hb dd_H_makeMove_12 rfl (lv_at hl 1 rfl) ?_
  refine va_get (D := (dC, dI)) (ci := 1) (v := .int sd) (C := RR_P) (T := FF_P) (N := 5) hx hb hts uu_P hown hK hP 6 rfl rfl 2 (by decide) (hts _ mm_167) (fun _ h9 => h9) rfl dd_H_makeMove_13 ?_
  refine lv_imul hx hb dd_H_makeMove_16 ?_
  refine lv_iadd hx hb dd_H_makeMove_17 ?_
  refine lv_icmp_ne (tgt := 25) hx hb dd_H_makeMove_18 (by decide) (fun hc => ?_) (fun hc => ?_)
  · replace hf := qq_f hc hf
    refine lv_iconst (v := 0) hx hb dd_H_makeMove_25 (by decide) ?_
    exact hJ26 md qt yc yb sd rt ps sq kg 0 _ _ _ (lv_sub hl [0, 1, 2] rfl) hP hD hS hf
  · replace hf := qq_t hc hf
    refine lv_iconst (v := 1) hx hb dd_H_makeMove_21 (by decide) ?_
    refine lv_goto (tgt := 26) hx hb dd_H_makeMove_22 (by decide) ?_
    exact hJ26 md qt yc yb sd rt ps sq kg 1 _ _ _ (lv_sub hl [0, 1, 2] rfl) hP hD hS hf
theorem dd_H_quietNow_0 : decode bb_H_quietNow 0 = .ok (.aload_n 0, 1) := by decide +kernel
theorem dd_H_quietNow_1 : decode bb_H_quietNow 1 = .ok (.getfield 19, 3) := by decide +kernel
theorem dd_H_quietNow_4 : decode bb_H_quietNow 4 = .ok (.aload_n 0, 1) := by decide +kernel
theorem dd_H_quietNow_5 : decode bb_H_quietNow 5 = .ok (.getfield 28, 3) := by decide +kernel
theorem dd_H_quietNow_8 : decode bb_H_quietNow 8 = .ok (.iaload, 1) := by decide +kernel
theorem dd_H_quietNow_9 : decode bb_H_quietNow 9 = .ok (.ireturn, 1) := by decide +kernel
abbrev ty_H_quietNow : Type := Int32
noncomputable def fn_H_quietNow (md : Int32) (qt : Nat → Int32) : Option ty_H_quietNow := qq_ck (qq_in md 151) <| some (qt md.toNatClampNeg)
abbrev rm_H_quietNow : Room := { frames := 0, cells := 0, slots := 0, locals := 0 }
set_option maxHeartbeats 4000000 in
set_option maxRecDepth 100000 in
theorem ct_H_quietNow (l : Launch) (dC : Nat → ClassId) (dI : Nat → Nat → Nat) (cI cL cR : ClassId) (oH obo oma oqt oyc oyb : Nat) (md : Int32) (bo : Nat → Int64) (ma : Nat → Int32) (qt : Nat → Int32) (yc : Nat → Int32) (yb : Nat → Int32) {rr : Int32} (hf : fn_H_quietNow md qt = some rr) : qq_det l yy_H_quietNow (ww_of yy_H_quietNow bb_H_quietNow 1 (some .int)) rm_H_quietNow (dC, dI) (qq_ty cI cL cR) [.ref oH] [(oH, .inr (3, [.ref obo, .ref oma, .ref oqt, .ref oyc, .ref oyb, .int md])), (obo, .inl (cL, 604, .inr (.inl bo))), (oma, .inl (cI, 151, .inl ma)), (oqt, .inl (cI, 151, .inl qt)), (oyc, .inl (cI, 150, .inl yc)), (oyb, .inl (cI, 150, .inl yb))] (some (.int rr)) [(oH, .inr (3, [.ref obo, .ref oma, .ref oqt, .ref oyc, .ref oyb, .int md])), (obo, .inl (cL, 604, .inr (.inl bo))), (oma, .inl (cI, 151, .inl ma)), (oqt, .inl (cI, 151, .inl qt)), (oyc, .inl (cI, 150, .inl yc)), (oyb, .inl (cI, 150, .inl yb))] := by
  refine qq_of (own := RR_H) (by decide) rfl (Nat.le_of_ble_eq_true rfl) ?_
  intro p e s m below meth c A Q ls hx hb hml hr hlocks hown hts hK hA hT hN hP hD hS hl hQ
  have hl : lv_has ls 1 [(0, .ref oH)] := hl
  rw [fn_H_quietNow] at hf
  refine lv_aload_n hx hb dd_H_quietNow_0 rfl (lv_at hl 0 rfl) ?_
  refine va_get (D := (dC, dI)) (ci := 3) (v := .ref oqt) (C := RR_H) (T := FF_H) (N := 6) hx hb hts uu_H hown hK hP 0 rfl rfl 2 (by decide) (hts _ mm_159) (fun _ h9 => h9) rfl dd_H_quietNow_1 ?_
  refine lv_aload_n hx hb dd_H_quietNow_4 rfl (lv_at hl 0 rfl) ?_
  refine va_get (D := (dC, dI)) (ci := 3) (v := .int md) (C := RR_H) (T := FF_H) (N := 6) hx hb hts uu_H hown hK hP 0 rfl rfl 5 (by decide) (hts _ mm_158) (fun _ h9 => h9) rfl dd_H_quietNow_5 ?_
  obtain ⟨hi1, hf⟩ := qq_ckE hf
  refine va_iald (D := (dC, dI)) (f := qt) (n := 151) (cA := cI) hx hb hK hP 3 0 rfl rfl (qq_inE hi1) dd_H_quietNow_8 ?_
  cases hf
  exact qq_iret hx hb hr hlocks hQ hP hD hK hS dd_H_quietNow_9
theorem dd_H_takeMoveBack_0 : decode bb_H_takeMoveBack 0 = .ok (.aload_n 0, 1) := by decide +kernel
theorem dd_H_takeMoveBack_1 : decode bb_H_takeMoveBack 1 = .ok (.dup, 1) := by decide +kernel
theorem dd_H_takeMoveBack_2 : decode bb_H_takeMoveBack 2 = .ok (.getfield 28, 3) := by decide +kernel
theorem dd_H_takeMoveBack_5 : decode bb_H_takeMoveBack 5 = .ok (.iconst 1, 1) := by decide +kernel
theorem dd_H_takeMoveBack_6 : decode bb_H_takeMoveBack 6 = .ok (.isub, 1) := by decide +kernel
theorem dd_H_takeMoveBack_7 : decode bb_H_takeMoveBack 7 = .ok (.putfield 28, 3) := by decide +kernel
theorem dd_H_takeMoveBack_10 : decode bb_H_takeMoveBack 10 = .ok (.aload_n 1, 1) := by decide +kernel
theorem dd_H_takeMoveBack_11 : decode bb_H_takeMoveBack 11 = .ok (.aload_n 0, 1) := by decide +kernel
theorem dd_H_takeMoveBack_12 : decode bb_H_takeMoveBack 12 = .ok (.getfield 22, 3) := by decide +kernel
theorem dd_H_takeMoveBack_15 : decode bb_H_takeMoveBack 15 = .ok (.aload_n 0, 1) := by decide +kernel
theorem dd_H_takeMoveBack_16 : decode bb_H_takeMoveBack 16 = .ok (.getfield 28, 3) := by decide +kernel
theorem dd_H_takeMoveBack_19 : decode bb_H_takeMoveBack 19 = .ok (.iaload, 1) := by decide +kernel
theorem dd_H_takeMoveBack_20 : decode bb_H_takeMoveBack 20 = .ok (.aload_n 0, 1) := by decide +kernel
theorem dd_H_takeMoveBack_21 : decode bb_H_takeMoveBack 21 = .ok (.getfield 25, 3) := by decide +kernel
theorem dd_H_takeMoveBack_24 : decode bb_H_takeMoveBack 24 = .ok (.aload_n 0, 1) := by decide +kernel
theorem dd_H_takeMoveBack_25 : decode bb_H_takeMoveBack 25 = .ok (.getfield 28, 3) := by decide +kernel
theorem dd_H_takeMoveBack_28 : decode bb_H_takeMoveBack 28 = .ok (.iaload, 1) := by decide +kernel
theorem dd_H_takeMoveBack_29 : decode bb_H_takeMoveBack 29 = .ok (.invokevirtual 44, 3) := by decide +kernel
theorem dd_H_takeMoveBack_32 : decode bb_H_takeMoveBack 32 = .ok (.return_, 1) := by decide +kernel
abbrev ty_H_takeMoveBack : Type := Int32 × Int32 × Int32 × Int32 × (Nat → Int32) × (Nat → Int32)
noncomputable def fn_H_takeMoveBack (md : Int32) (yc : Nat → Int32) (yb : Nat → Int32) (sd : Int32) (rt : Int32) (ps : Int32) (sq : Nat → Int32) (kg : Nat → Int32) : Option ty_H_takeMoveBack := qq_let (md - 1) fun v1 => qq_ck (qq_in v1 150) <| qq_ck (qq_in v1 150) <| (fn_P_takeBack sd rt ps sq kg (yc v1.toNatClampNeg) (yb v1.toNatClampNeg)).bind fun (sd_4, rt_5, ps_6, sq_7, kg_8) => some (v1, sd_4, rt_5, ps_6, sq_7, kg_8)
abbrev rm_H_takeMoveBack : Room := { frames := 3, cells := 0, slots := 0, locals := 69 }
set_option maxHeartbeats 4000000 in
set_option maxRecDepth 100000 in
theorem ct_H_takeMoveBack (l : Launch) (dC : Nat → ClassId) (dI : Nat → Nat → Nat) (cI cL cR : ClassId) (oH obo oma oqt oyc oyb oP osq okg : Nat) (md : Int32) (bo : Nat → Int64) (ma : Nat → Int32) (qt : Nat → Int32) (yc : Nat → Int32) (yb : Nat → Int32) (sd : Int32) (rt : Int32) (ps : Int32) (sq : Nat → Int32) (kg : Nat → Int32) {md' : Int32} {sd' : Int32} {rt' : Int32} {ps' : Int32} {sq' : Nat → Int32} {kg' : Nat → Int32} (hf : fn_H_takeMoveBack md yc yb sd rt ps sq kg = some (md', sd', rt', ps', sq', kg')) : qq_det l yy_H_takeMoveBack (ww_of yy_H_takeMoveBack bb_H_takeMoveBack 2 none) rm_H_takeMoveBack (dC, dI) (qq_ty cI cL cR) [.ref oH, .ref oP] [(oH, .inr (3, [.ref obo, .ref oma, .ref oqt, .ref oyc, .ref oyb, .int md])), (obo, .inl (cL, 604, .inr (.inl bo))), (oma, .inl (cI, 151, .inl ma)), (oqt, .inl (cI, 151, .inl qt)), (oyc, .inl (cI, 150, .inl yc)), (oyb, .inl (cI, 150, .inl yb)), (oP, .inr (1, [.ref osq, .ref okg, .int sd, .int rt, .int ps])), (osq, .inl (cI, 64, .inl sq)), (okg, .inl (cI, 2, .inl kg))] none [(oH, .inr (3, [.ref obo, .ref oma, .ref oqt, .ref oyc, .ref oyb, .int md'])), (obo, .inl (cL, 604, .inr (.inl bo))), (oma, .inl (cI, 151, .inl ma)), (oqt, .inl (cI, 151, .inl qt)), (oyc, .inl (cI, 150, .inl yc)), (oyb, .inl (cI, 150, .inl yb)), (oP, .inr (1, [.ref osq, .ref okg, .int sd', .int rt', .int ps'])), (osq, .inl (cI, 64, .inl sq')), (okg, .inl (cI, 2, .inl kg'))] := by
  refine qq_of (own := RR_H) (by decide) rfl (Nat.le_of_ble_eq_true rfl) ?_
  intro p e s m below meth c A Q ls hx hb hml hr hlocks hown hts hK hA hT hN hP hD hS hl hQ
  have hl : lv_has ls 2 [(0, .ref oH), (1, .ref oP)] := hl
  rw [fn_H_takeMoveBack] at hf
  refine lv_aload_n hx hb dd_H_takeMoveBack_0 rfl (lv_at hl 0 rfl) ?_
  refine lv_dup hx hb dd_H_takeMoveBack_1 rfl ?_
  refine va_get (D := (dC, dI)) (ci := 3) (v := .int md) (C := RR_H) (T := FF_H) (N := 6) hx hb hts uu_H hown hK hP 0 rfl rfl 5 (by decide) (hts _ mm_158) (fun _ h9 => h9) rfl dd_H_takeMoveBack_2 ?_
  refine lv_iconst (v := 1) hx hb dd_H_takeMoveBack_5 (by decide) ?_
  refine lv_isub hx hb dd_H_takeMoveBack_6 ?_
  refine lv_topi (fun v1 ev1 => ?_)
  replace hf := qq_lt ev1 hf
  refine va_put (D := (dC, dI)) (ci := 3) (v := .int v1) (ty := .int) (C := RR_H) (T := FF_H) (N := 6) hx hb hts uu_H tt_H tt_H_ok nn_H hown hK hP hD hS 0 rfl rfl 5 (by decide) (hts _ mm_158) (fun _ h9 => h9) rfl (by decide +kernel) rfl rfl (Nat.le_of_ble_eq_true rfl) dd_H_takeMoveBack_7 (fun H locs hP hD hS => ?_)
  have hP : va_P (dC, dI) classes [(oH, .inr (3, [.ref obo, .ref oma, .ref oqt, .ref oyc, .ref oyb, .int v1])), (obo, .inl (cL, 604, .inr (.inl bo))), (oma, .inl (cI, 151, .inl ma)), (oqt, .inl (cI, 151, .inl qt)), (oyc, .inl (cI, 150, .inl yc)), (oyb, .inl (cI, 150, .inl yb)), (oP, .inr (1, [.ref osq, .ref okg, .int sd, .int rt, .int ps])), (osq, .inl (cI, 64, .inl sq)), (okg, .inl (cI, 2, .inl kg))] H := hP
  have hD : va_D A [(oH, .inr (3, [.ref obo, .ref oma, .ref oqt, .ref oyc, .ref oyb, .int v1])), (obo, .inl (cL, 604, .inr (.inl bo))), (oma, .inl (cI, 151, .inl ma)), (oqt, .inl (cI, 151, .inl qt)), (oyc, .inl (cI, 150, .inl yc)), (oyb, .inl (cI, 150, .inl yb)), (oP, .inr (1, [.ref osq, .ref okg, .int sd, .int rt, .int ps])), (osq, .inl (cI, 64, .inl sq)), (okg, .inl (cI, 2, .inl kg))] := hD
  refine lv_aload_n hx hb dd_H_takeMoveBack_10 rfl (lv_at hl 1 rfl) ?_
  refine lv_aload_n hx hb dd_H_takeMoveBack_11 rfl (lv_at hl 0 rfl) ?_
  refine va_get (D := (dC, dI)) (ci := 3) (v := .ref oyc) (C := RR_H) (T := FF_H) (N := 6) hx hb hts uu_H hown hK hP 0 rfl rfl 3 (by decide) (hts _ mm_205) (fun _ h9 => h9) rfl dd_H_takeMoveBack_12 ?_
  refine lv_aload_n hx hb dd_H_takeMoveBack_15 rfl (lv_at hl 0 rfl) ?_
  refine va_get (D := (dC, dI)) (ci := 3) (v := .int v1) (C := RR_H) (T := FF_H) (N := 6) hx hb hts uu_H hown hK hP 0 rfl rfl 5 (by decide) (hts _ mm_158) (fun _ h9 => h9) rfl dd_H_takeMoveBack_16 ?_
  obtain ⟨hi2, hf⟩ := qq_ckE hf
  refine va_iald (D := (dC, dI)) (f := yc) (n := 150) (cA := cI) hx hb hK hP 4 0 rfl rfl (qq_inE hi2) dd_H_takeMoveBack_19 ?_
  refine lv_aload_n hx hb dd_H_takeMoveBack_20 rfl (lv_at hl 0 rfl) ?_
  refine va_get (D := (dC, dI)) (ci := 3) (v := .ref oyb) (C := RR_H) (T := FF_H) (N := 6) hx hb hts uu_H hown hK hP 0 rfl rfl 4 (by decide) (hts _ mm_206) (fun _ h9 => h9) rfl dd_H_takeMoveBack_21 ?_
  refine lv_aload_n hx hb dd_H_takeMoveBack_24 rfl (lv_at hl 0 rfl) ?_
  refine va_get (D := (dC, dI)) (ci := 3) (v := .int v1) (C := RR_H) (T := FF_H) (N := 6) hx hb hts uu_H hown hK hP 0 rfl rfl 5 (by decide) (hts _ mm_158) (fun _ h9 => h9) rfl dd_H_takeMoveBack_25 ?_
  obtain ⟨hi3, hf⟩ := qq_ckE hf
  refine va_iald (D := (dC, dI)) (f := yb) (n := 150) (cA := cI) hx hb hK hP 5 0 rfl rfl (qq_inE hi3) dd_H_takeMoveBack_28 ?_
  obtain ⟨⟨sd_4, rt_5, ps_6, sq_7, kg_8⟩, hy8, hf⟩ := qq_bd hf
  dsimp only at hf
  refine qq_V (As := [.int (yc v1.toNatClampNeg), .int (yb v1.toNatClampNeg)]) (rest := []) (wr := [(oH, .inr (3, [.ref obo, .ref oma, .ref oqt, .ref oyc, .ref oyb, .int v1])), (obo, .inl (cL, 604, .inr (.inl bo))), (oma, .inl (cI, 151, .inl ma)), (oqt, .inl (cI, 151, .inl qt)), (oyc, .inl (cI, 150, .inl yc)), (oyb, .inl (cI, 150, .inl yb))]) (wf := [(oH, .inr (3, [.ref obo, .ref oma, .ref oqt, .ref oyc, .ref oyb, .int v1])), (obo, .inl (cL, 604, .inr (.inl bo))), (oma, .inl (cI, 151, .inl ma)), (oqt, .inl (cI, 151, .inl qt)), (oyc, .inl (cI, 150, .inl yc)), (oyb, .inl (cI, 150, .inl yb)), (oP, .inr (1, [.ref osq, .ref okg, .int sd_4, .int rt_5, .int ps_6])), (osq, .inl (cI, 64, .inl sq_7)), (okg, .inl (cI, 2, .inl kg_8))]) ⟨hx, hb, hml, hown, hts⟩ (ct_P_takeBack l dC dI cI cL cR oP osq okg sd rt ps sq kg (yc v1.toNatClampNeg) (yb v1.toNatClampNeg) hy8) mm_208 mm_128 mm_129 mm_126 mm_15 hd_P_takeBack (by decide) qq_00 hP hD hK hS hA hT hN (q0 := 6) (ci := 1) rfl rfl [6, 7, 8] [0, 1, 2, 3, 4, 5] [0, 1, 2, 3, 4, 5, 6, 7, 8] rfl rfl rfl (by decide) rfl hl.1 rfl (Nat.le_of_ble_eq_true rfl) dd_H_takeMoveBack_29 (fun H locs hP hD hS => ?_)
  refine W.eq (g2 := F0 m 32 ls []) rfl ?_
  cases hf
  exact qq_vret hx hb hr hlocks hQ hP hD hK hS dd_H_takeMoveBack_32
theorem dd_M_ahead_0 : decode bb_M_ahead 0 = .ok (.iload_n 0, 1) := by decide +kernel
theorem dd_M_ahead_1 : decode bb_M_ahead 1 = .ok (.ifCond .ne 7, 3) := by decide +kernel
theorem dd_M_ahead_4 : decode bb_M_ahead 4 = .ok (.iconst 1, 1) := by decide +kernel
theorem dd_M_ahead_5 : decode bb_M_ahead 5 = .ok (.goto 4, 3) := by decide +kernel
theorem dd_M_ahead_8 : decode bb_M_ahead 8 = .ok (.iconst (-1), 1) := by decide +kernel
theorem dd_M_ahead_9 : decode bb_M_ahead 9 = .ok (.ireturn, 1) := by decide +kernel
abbrev ty_M_ahead : Type := Int32
noncomputable def bk_M_ahead_9 (a0 : Int32) (s0 : Int32) : Option ty_M_ahead := some s0
noncomputable def fn_M_ahead (a0 : Int32) : Option ty_M_ahead := if a0 = 0 then (bk_M_ahead_9 a0 1) else (bk_M_ahead_9 a0 (-1))
abbrev rm_M_ahead : Room := { frames := 0, cells := 0, slots := 0, locals := 0 }
set_option maxHeartbeats 4000000 in
set_option maxRecDepth 100000 in
theorem ct_M_ahead (l : Launch) (dC : Nat → ClassId) (dI : Nat → Nat → Nat) (cI cL cR : ClassId) (a0 : Int32) {rr : Int32} (hf : fn_M_ahead a0 = some rr) : qq_det l yy_M_ahead (ww_of yy_M_ahead bb_M_ahead 1 (some .int)) rm_M_ahead (dC, dI) (qq_ty cI cL cR) [.int a0] [] (some (.int rr)) [] := by
  refine qq_of (own := RR_M) (by decide) rfl (Nat.le_of_ble_eq_true rfl) ?_
  intro p e s m below meth c A Q ls hx hb hml hr hlocks hown hts hK hA hT hN hP hD hS hl hQ
  have hl : lv_has ls 1 [(0, .int a0)] := hl
  have hJ9 : ∀ (s0 : Int32) (H : Heap) (locs : List Loc) (ls : Array Slot), lv_has ls 1 [] → va_P (dC, dI) classes [] H → va_D A [] → va_S A s.heap H locs → bk_M_ahead_9 a0 s0 = some rr → W p l e rm_M_ahead s m ([.int a0] : List Value).toArray below meth c H locs 0 0 Q (F0 m 9 ls [.int s0]) := by
    intro s0 H locs ls hl hP hD hS hf
    rw [bk_M_ahead_9] at hf
    cases hf
    exact qq_iret hx hb hr hlocks hQ hP hD hK hS dd_M_ahead_9
  rw [fn_M_ahead] at hf
  refine lv_iload_n hx hb dd_M_ahead_0 rfl (lv_at hl 0 rfl) ?_
  refine lv_if_ne (tgt := 8) hx hb dd_M_ahead_1 (by decide) (fun hc => ?_) (fun hc => ?_)
  · replace hf := qq_f hc hf
    refine lv_iconst (v := (-1)) hx hb dd_M_ahead_8 (by decide) ?_
    exact hJ9 (-1) _ _ _ (lv_sub hl [] rfl) hP hD hS hf
  · replace hf := qq_t hc hf
    refine lv_iconst (v := 1) hx hb dd_M_ahead_4 (by decide) ?_
    refine lv_goto (tgt := 9) hx hb dd_M_ahead_5 (by decide) ?_
    exact hJ9 1 _ _ _ (lv_sub hl [] rfl) hP hD hS hf
theorem dd_M_isOf_0 : decode bb_M_isOf 0 = .ok (.iload_n 0, 1) := by decide +kernel
theorem dd_M_isOf_1 : decode bb_M_isOf 1 = .ok (.ifCond .le 31, 3) := by decide +kernel
theorem dd_M_isOf_4 : decode bb_M_isOf 4 = .ok (.iload_n 0, 1) := by decide +kernel
theorem dd_M_isOf_5 : decode bb_M_isOf 5 = .ok (.bipush 6, 2) := by decide +kernel
theorem dd_M_isOf_7 : decode bb_M_isOf 7 = .ok (.if_icmp .le 7, 3) := by decide +kernel
theorem dd_M_isOf_10 : decode bb_M_isOf 10 = .ok (.iconst 1, 1) := by decide +kernel
theorem dd_M_isOf_11 : decode bb_M_isOf 11 = .ok (.goto 4, 3) := by decide +kernel
theorem dd_M_isOf_14 : decode bb_M_isOf 14 = .ok (.iconst 0, 1) := by decide +kernel
theorem dd_M_isOf_15 : decode bb_M_isOf 15 = .ok (.iload_n 1, 1) := by decide +kernel
theorem dd_M_isOf_16 : decode bb_M_isOf 16 = .ok (.iconst 1, 1) := by decide +kernel
theorem dd_M_isOf_17 : decode bb_M_isOf 17 = .ok (.if_icmp .ne 7, 3) := by decide +kernel
theorem dd_M_isOf_20 : decode bb_M_isOf 20 = .ok (.iconst 1, 1) := by decide +kernel
theorem dd_M_isOf_21 : decode bb_M_isOf 21 = .ok (.goto 4, 3) := by decide +kernel
theorem dd_M_isOf_24 : decode bb_M_isOf 24 = .ok (.iconst 0, 1) := by decide +kernel
theorem dd_M_isOf_25 : decode bb_M_isOf 25 = .ok (.if_icmp .ne 7, 3) := by decide +kernel
theorem dd_M_isOf_28 : decode bb_M_isOf 28 = .ok (.iconst 1, 1) := by decide +kernel
theorem dd_M_isOf_29 : decode bb_M_isOf 29 = .ok (.goto 4, 3) := by decide +kernel
theorem dd_M_isOf_32 : decode bb_M_isOf 32 = .ok (.iconst 0, 1) := by decide +kernel
theorem dd_M_isOf_33 : decode bb_M_isOf 33 = .ok (.ireturn, 1) := by decide +kernel
abbrev ty_M_isOf : Type := Int32
noncomputable def bk_M_isOf_33 (a0 : Int32) (a1 : Int32) (s0 : Int32) : Option ty_M_isOf := qq_ck (qq_b s0) <| some s0
noncomputable def bk_M_isOf_32 (a0 : Int32) (a1 : Int32) : Option ty_M_isOf := bk_M_isOf_33 a0 a1 0
noncomputable def bk_M_isOf_25 (a0 : Int32) (a1 : Int32) (s0 : Int32) (s1 : Int32) : Option ty_M_isOf := if s0 = s1 then (bk_M_isOf_33 a0 a1 1) else (bk_M_isOf_32 a0 a1)
noncomputable def bk_M_isOf_15 (a0 : Int32) (a1 : Int32) (s0 : Int32) : Option ty_M_isOf := if a1 = 1 then (bk_M_isOf_25 a0 a1 s0 1) else (bk_M_isOf_25 a0 a1 s0 0)
noncomputable def fn_M_isOf (a0 : Int32) (a1 : Int32) : Option ty_M_isOf := if a0 ≤ 0 then (bk_M_isOf_32 a0 a1) else (if a0 ≤ 6 then (bk_M_isOf_15 a0 a1 0) else (bk_M_isOf_15 a0 a1 1))
abbrev rm_M_isOf : Room := { frames := 0, cells := 0, slots := 0, locals := 0 }
set_option maxHeartbeats 4000000 in
set_option maxRecDepth 100000 in
theorem ct_M_isOf (l : Launch) (dC : Nat → ClassId) (dI : Nat → Nat → Nat) (cI cL cR : ClassId) (a0 : Int32) (a1 : Int32) {rr : Int32} (hf : fn_M_isOf a0 a1 = some rr) : qq_det l yy_M_isOf (ww_of yy_M_isOf bb_M_isOf 2 (some .boolean)) rm_M_isOf (dC, dI) (qq_ty cI cL cR) [.int a0, .int a1] [] (some (.int rr)) [] := by
  refine qq_of (own := RR_M) (by decide) rfl (Nat.le_of_ble_eq_true rfl) ?_
  intro p e s m below meth c A Q ls hx hb hml hr hlocks hown hts hK hA hT hN hP hD hS hl hQ
  have hl : lv_has ls 2 [(0, .int a0), (1, .int a1)] := hl
  have hJ33 : ∀ (s0 : Int32) (H : Heap) (locs : List Loc) (ls : Array Slot), lv_has ls 2 [] → va_P (dC, dI) classes [] H → va_D A [] → va_S A s.heap H locs → bk_M_isOf_33 a0 a1 s0 = some rr → W p l e rm_M_isOf s m ([.int a0, .int a1] : List Value).toArray below meth c H locs 0 0 Q (F0 m 33 ls [.int s0]) := by
    intro s0 H locs ls hl hP hD hS hf
    rw [bk_M_isOf_33] at hf
    obtain ⟨hzb, hf⟩ := qq_ckE hf
    cases hf
    exact qq_zret hx hb hr (qq_bE hzb) hlocks hQ hP hD hK hS dd_M_isOf_33
  have hJ32 : ∀  (H : Heap) (locs : List Loc) (ls : Array Slot), lv_has ls 2 [] → va_P (dC, dI) classes [] H → va_D A [] → va_S A s.heap H locs → bk_M_isOf_32 a0 a1 = some rr → W p l e rm_M_isOf s m ([.int a0, .int a1] : List Value).toArray below meth c H locs 0 0 Q (F0 m 32 ls []) := by
    intro  H locs ls hl hP hD hS hf
    rw [bk_M_isOf_32] at hf
    refine lv_iconst (v := 0) hx hb dd_M_isOf_32 (by decide) ?_
    exact hJ33 0 _ _ _ (lv_sub hl [] rfl) hP hD hS hf
  have hJ25 : ∀ (s0 : Int32) (s1 : Int32) (H : Heap) (locs : List Loc) (ls : Array Slot), lv_has ls 2 [] → va_P (dC, dI) classes [] H → va_D A [] → va_S A s.heap H locs → bk_M_isOf_25 a0 a1 s0 s1 = some rr → W p l e rm_M_isOf s m ([.int a0, .int a1] : List Value).toArray below meth c H locs 0 0 Q (F0 m 25 ls [.int s1, .int s0]) := by
    intro s0 s1 H locs ls hl hP hD hS hf
    rw [bk_M_isOf_25] at hf
    refine lv_icmp_ne (tgt := 32) hx hb dd_M_isOf_25 (by decide) (fun hc => ?_) (fun hc => ?_)
    · replace hf := qq_f hc hf
      exact hJ32  _ _ _ (lv_sub hl [] rfl) hP hD hS hf
    · replace hf := qq_t hc hf
      refine lv_iconst (v := 1) hx hb dd_M_isOf_28 (by decide) ?_
      refine lv_goto (tgt := 33) hx hb dd_M_isOf_29 (by decide) ?_
      exact hJ33 1 _ _ _ (lv_sub hl [] rfl) hP hD hS hf
  have hJ15 : ∀ (s0 : Int32) (H : Heap) (locs : List Loc) (ls : Array Slot), lv_has ls 2 [(1, .int a1)] → va_P (dC, dI) classes [] H → va_D A [] → va_S A s.heap H locs → bk_M_isOf_15 a0 a1 s0 = some rr → W p l e rm_M_isOf s m ([.int a0, .int a1] : List Value).toArray below meth c H locs 0 0 Q (F0 m 15 ls [.int s0]) := by
    intro s0 H locs ls hl hP hD hS hf
    rw [bk_M_isOf_15] at hf
    refine lv_iload_n hx hb dd_M_isOf_15 rfl (lv_at hl 0 rfl) ?_
    refine lv_iconst (v := 1) hx hb dd_M_isOf_16 (by decide) ?_
    refine lv_icmp_ne (tgt := 24) hx hb dd_M_isOf_17 (by decide) (fun hc => ?_) (fun hc => ?_)
    · replace hf := qq_f hc hf
      refine lv_iconst (v := 0) hx hb dd_M_isOf_24 (by decide) ?_
      exact hJ25 s0 0 _ _ _ (lv_sub hl [] rfl) hP hD hS hf
    · replace hf := qq_t hc hf
      refine lv_iconst (v := 1) hx hb dd_M_isOf_20 (by decide) ?_
      refine lv_goto (tgt := 25) hx hb dd_M_isOf_21 (by decide) ?_
      exact hJ25 s0 1 _ _ _ (lv_sub hl [] rfl) hP hD hS hf
  rw [fn_M_isOf] at hf
  refine lv_iload_n hx hb dd_M_isOf_0 rfl (lv_at hl 0 rfl) ?_
  refine lv_if_le (tgt := 32) hx hb dd_M_isOf_1 (by decide) (fun hc => ?_) (fun hc => ?_)
  · replace hf := qq_t hc hf
    exact hJ32  _ _ _ (lv_sub hl [] rfl) hP hD hS hf
  · replace hf := qq_f hc hf
    refine lv_iload_n hx hb dd_M_isOf_4 rfl (lv_at hl 0 rfl) ?_
    refine lv_bipush (v := 6) hx hb dd_M_isOf_5 (by decide) ?_
    refine lv_icmp_le (tgt := 14) hx hb dd_M_isOf_7 (by decide) (fun hc => ?_) (fun hc => ?_)
    · replace hf := qq_t hc hf
      refine lv_iconst (v := 0) hx hb dd_M_isOf_14 (by decide) ?_
      exact hJ15 0 _ _ _ (lv_sub hl [1] rfl) hP hD hS hf
    · replace hf := qq_f hc hf
      refine lv_iconst (v := 1) hx hb dd_M_isOf_10 (by decide) ?_
      refine lv_goto (tgt := 15) hx hb dd_M_isOf_11 (by decide) ?_
      exact hJ15 1 _ _ _ (lv_sub hl [1] rfl) hP hD hS hf
theorem dd_M_kindOf_0 : decode bb_M_kindOf 0 = .ok (.iload_n 0, 1) := by decide +kernel
theorem dd_M_kindOf_1 : decode bb_M_kindOf 1 = .ok (.bipush 6, 2) := by decide +kernel
theorem dd_M_kindOf_3 : decode bb_M_kindOf 3 = .ok (.if_icmp .le 10, 3) := by decide +kernel
theorem dd_M_kindOf_6 : decode bb_M_kindOf 6 = .ok (.iload_n 0, 1) := by decide +kernel
theorem dd_M_kindOf_7 : decode bb_M_kindOf 7 = .ok (.bipush 6, 2) := by decide +kernel
theorem dd_M_kindOf_9 : decode bb_M_kindOf 9 = .ok (.isub, 1) := by decide +kernel
theorem dd_M_kindOf_10 : decode bb_M_kindOf 10 = .ok (.goto 4, 3) := by decide +kernel
theorem dd_M_kindOf_13 : decode bb_M_kindOf 13 = .ok (.iload_n 0, 1) := by decide +kernel
theorem dd_M_kindOf_14 : decode bb_M_kindOf 14 = .ok (.ireturn, 1) := by decide +kernel
abbrev ty_M_kindOf : Type := Int32
noncomputable def bk_M_kindOf_14 (a0 : Int32) (s0 : Int32) : Option ty_M_kindOf := some s0
noncomputable def fn_M_kindOf (a0 : Int32) : Option ty_M_kindOf := if a0 ≤ 6 then (bk_M_kindOf_14 a0 a0) else (bk_M_kindOf_14 a0 (a0 - 6))
abbrev rm_M_kindOf : Room := { frames := 0, cells := 0, slots := 0, locals := 0 }
set_option maxHeartbeats 4000000 in
set_option maxRecDepth 100000 in
theorem ct_M_kindOf (l : Launch) (dC : Nat → ClassId) (dI : Nat → Nat → Nat) (cI cL cR : ClassId) (a0 : Int32) {rr : Int32} (hf : fn_M_kindOf a0 = some rr) : qq_det l yy_M_kindOf (ww_of yy_M_kindOf bb_M_kindOf 1 (some .int)) rm_M_kindOf (dC, dI) (qq_ty cI cL cR) [.int a0] [] (some (.int rr)) [] := by
  refine qq_of (own := RR_M) (by decide) rfl (Nat.le_of_ble_eq_true rfl) ?_
  intro p e s m below meth c A Q ls hx hb hml hr hlocks hown hts hK hA hT hN hP hD hS hl hQ
  have hl : lv_has ls 1 [(0, .int a0)] := hl
  have hJ14 : ∀ (s0 : Int32) (H : Heap) (locs : List Loc) (ls : Array Slot), lv_has ls 1 [] → va_P (dC, dI) classes [] H → va_D A [] → va_S A s.heap H locs → bk_M_kindOf_14 a0 s0 = some rr → W p l e rm_M_kindOf s m ([.int a0] : List Value).toArray below meth c H locs 0 0 Q (F0 m 14 ls [.int s0]) := by
    intro s0 H locs ls hl hP hD hS hf
    rw [bk_M_kindOf_14] at hf
    cases hf
    exact qq_iret hx hb hr hlocks hQ hP hD hK hS dd_M_kindOf_14
  rw [fn_M_kindOf] at hf
  refine lv_iload_n hx hb dd_M_kindOf_0 rfl (lv_at hl 0 rfl) ?_
  refine lv_bipush (v := 6) hx hb dd_M_kindOf_1 (by decide) ?_
  refine lv_icmp_le (tgt := 13) hx hb dd_M_kindOf_3 (by decide) (fun hc => ?_) (fun hc => ?_)
  · replace hf := qq_t hc hf
    refine lv_iload_n hx hb dd_M_kindOf_13 rfl (lv_at hl 0 rfl) ?_
    exact hJ14 a0 _ _ _ (lv_sub hl [] rfl) hP hD hS hf
  · replace hf := qq_f hc hf
    refine lv_iload_n hx hb dd_M_kindOf_6 rfl (lv_at hl 0 rfl) ?_
    refine lv_bipush (v := 6) hx hb dd_M_kindOf_7 (by decide) ?_
    refine lv_isub hx hb dd_M_kindOf_9 ?_
    refine lv_goto (tgt := 14) hx hb dd_M_kindOf_10 (by decide) ?_
    exact hJ14 (a0 - 6) _ _ _ (lv_sub hl [] rfl) hP hD hS hf
theorem dd_M_outside_0 : decode bb_M_outside 0 = .ok (.iload_n 0, 1) := by decide +kernel
theorem dd_M_outside_1 : decode bb_M_outside 1 = .ok (.iload_n 1, 1) := by decide +kernel
theorem dd_M_outside_2 : decode bb_M_outside 2 = .ok (.if_icmp .lt 8, 3) := by decide +kernel
theorem dd_M_outside_5 : decode bb_M_outside 5 = .ok (.iload_n 0, 1) := by decide +kernel
theorem dd_M_outside_6 : decode bb_M_outside 6 = .ok (.iload_n 2, 1) := by decide +kernel
theorem dd_M_outside_7 : decode bb_M_outside 7 = .ok (.if_icmp .le 7, 3) := by decide +kernel
theorem dd_M_outside_10 : decode bb_M_outside 10 = .ok (.iconst 1, 1) := by decide +kernel
theorem dd_M_outside_11 : decode bb_M_outside 11 = .ok (.goto 4, 3) := by decide +kernel
theorem dd_M_outside_14 : decode bb_M_outside 14 = .ok (.iconst 0, 1) := by decide +kernel
theorem dd_M_outside_15 : decode bb_M_outside 15 = .ok (.ireturn, 1) := by decide +kernel
abbrev ty_M_outside : Type := Int32
noncomputable def bk_M_outside_15 (a0 : Int32) (a1 : Int32) (a2 : Int32) (s0 : Int32) : Option ty_M_outside := qq_ck (qq_b s0) <| some s0
noncomputable def bk_M_outside_10 (a0 : Int32) (a1 : Int32) (a2 : Int32) : Option ty_M_outside := bk_M_outside_15 a0 a1 a2 1
noncomputable def fn_M_outside (a0 : Int32) (a1 : Int32) (a2 : Int32) : Option ty_M_outside := if a0 < a1 then (bk_M_outside_10 a0 a1 a2) else (if a0 ≤ a2 then (bk_M_outside_15 a0 a1 a2 0) else (bk_M_outside_10 a0 a1 a2))
abbrev rm_M_outside : Room := { frames := 0, cells := 0, slots := 0, locals := 0 }
set_option maxHeartbeats 4000000 in
set_option maxRecDepth 100000 in
theorem ct_M_outside (l : Launch) (dC : Nat → ClassId) (dI : Nat → Nat → Nat) (cI cL cR : ClassId) (a0 : Int32) (a1 : Int32) (a2 : Int32) {rr : Int32} (hf : fn_M_outside a0 a1 a2 = some rr) : qq_det l yy_M_outside (ww_of yy_M_outside bb_M_outside 3 (some .boolean)) rm_M_outside (dC, dI) (qq_ty cI cL cR) [.int a0, .int a1, .int a2] [] (some (.int rr)) [] := by
  refine qq_of (own := RR_M) (by decide) rfl (Nat.le_of_ble_eq_true rfl) ?_
  intro p e s m below meth c A Q ls hx hb hml hr hlocks hown hts hK hA hT hN hP hD hS hl hQ
  have hl : lv_has ls 3 [(0, .int a0), (1, .int a1), (2, .int a2)] := hl
  have hJ15 : ∀ (s0 : Int32) (H : Heap) (locs : List Loc) (ls : Array Slot), lv_has ls 3 [] → va_P (dC, dI) classes [] H → va_D A [] → va_S A s.heap H locs → bk_M_outside_15 a0 a1 a2 s0 = some rr → W p l e rm_M_outside s m ([.int a0, .int a1, .int a2] : List Value).toArray below meth c H locs 0 0 Q (F0 m 15 ls [.int s0]) := by
    intro s0 H locs ls hl hP hD hS hf
    rw [bk_M_outside_15] at hf
    obtain ⟨hzb, hf⟩ := qq_ckE hf
    cases hf
    exact qq_zret hx hb hr (qq_bE hzb) hlocks hQ hP hD hK hS dd_M_outside_15
  have hJ10 : ∀  (H : Heap) (locs : List Loc) (ls : Array Slot), lv_has ls 3 [] → va_P (dC, dI) classes [] H → va_D A [] → va_S A s.heap H locs → bk_M_outside_10 a0 a1 a2 = some rr → W p l e rm_M_outside s m ([.int a0, .int a1, .int a2] : List Value).toArray below meth c H locs 0 0 Q (F0 m 10 ls []) := by
    intro  H locs ls hl hP hD hS hf
    rw [bk_M_outside_10] at hf
    refine lv_iconst (v := 1) hx hb dd_M_outside_10 (by decide) ?_
    refine lv_goto (tgt := 15) hx hb dd_M_outside_11 (by decide) ?_
    exact hJ15 1 _ _ _ (lv_sub hl [] rfl) hP hD hS hf
  rw [fn_M_outside] at hf
  refine lv_iload_n hx hb dd_M_outside_0 rfl (lv_at hl 0 rfl) ?_
  refine lv_iload_n hx hb dd_M_outside_1 rfl (lv_at hl 1 rfl) ?_
  refine lv_icmp_lt (tgt := 10) hx hb dd_M_outside_2 (by decide) (fun hc => ?_) (fun hc => ?_)
  · replace hf := qq_t hc hf
    exact hJ10  _ _ _ (lv_sub hl [] rfl) hP hD hS hf
  · replace hf := qq_f hc hf
    refine lv_iload_n hx hb dd_M_outside_5 rfl (lv_at hl 0 rfl) ?_
    refine lv_iload_n hx hb dd_M_outside_6 rfl (lv_at hl 2 rfl) ?_
    refine lv_icmp_le (tgt := 14) hx hb dd_M_outside_7 (by decide) (fun hc => ?_) (fun hc => ?_)
    · replace hf := qq_t hc hf
      refine lv_iconst (v := 0) hx hb dd_M_outside_14 (by decide) ?_
      exact hJ15 0 _ _ _ (lv_sub hl [] rfl) hP hD hS hf
    · replace hf := qq_f hc hf
      exact hJ10  _ _ _ (lv_sub hl [] rfl) hP hD hS hf
