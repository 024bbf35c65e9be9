/-! positions whole; the model's mates -/
abbrev Ps : Type := Bd × Nat × Nat × Nat × (Nat → Nat)
def pvp (P : Ps) : Prop := pv P.1 P.2.1 P.2.2.1 P.2.2.2.1 P.2.2.2.2
def lmp (P : Ps) : List Nat := lms P.1 P.2.1 P.2.2.1 P.2.2.2.1 P.2.2.2.2
def nxp (P : Ps) (c : Nat) : Ps := (mvb P.1 P.2.1 (c % 64) (c / 64 % 64) (c / 4096), 1 - P.2.1, rr P.2.2.1 (c % 64) (c / 64 % 64), ppn P.1 (c % 64) (c / 64 % 64), kU P.1 P.2.2.2.2 P.2.1 (c % 64) (c / 64 % 64))
def chp (P : Ps) : Bool := mh P.1 (1 - P.2.1) (P.2.2.2.2 P.2.1)
def isq (P : Ps) : Int32 × Int32 × Int32 × (Nat → Int32) := (iI (P.2.1 : Int), iI (P.2.2.1 : Int), iI ((P.2.2.2.1 : Int) - 1), bq P.1)
theorem nxp_pv {P : Ps} (h : pvp P) {c : Nat} (hc : c ∈ lmp P) : pvp (nxp P c) := by
  obtain ⟨a, t, p, ha, ht, hp, hg, hs, rfl⟩ := (lms_mem h).mp hc
  obtain ⟨e1, e2, e3⟩ := cod_1 ha ht (p := p)
  rw [pvp, nxp, e1, e2, e3]
  apply pv_next h ha ht hg
  rw [sf] at hs
  simpa using hs
def qnc (P : Ps) (c : Nat) (q : Int32) : Int32 := qn P.1 (c % 64) (c / 64 % 64) q
theorem m_make {P : Ps} (h : pvp P) {c : Nat} (hc : c ∈ lmp P) {lv : Nat} (hlv : lv < 3) (q : Int32) (K : KT) :
    ∃ K' : KT, fn_M_make (iI (P.2.1 : Int)) (iI (P.2.2.1 : Int)) (iI ((P.2.2.2.1 : Int) - 1)) q (bq P.1) K.1 K.2.1 K.2.2.1 K.2.2.2.1 K.2.2.2.2 (iI (c : Int)) (iI (lv : Int)) = some (iI ((nxp P c).2.1 : Int), iI ((nxp P c).2.2.1 : Int), iI (((nxp P c).2.2.2.1 : Int) - 1), qnc P c q, bq (nxp P c).1, K'.1, K'.2.1, K'.2.2.1, K'.2.2.2.1, K'.2.2.2.2) ∧ kpt lv P.1 P.2.1 P.2.2.1 P.2.2.2.1 q K' ∧ kag lv K K' := by
  obtain ⟨a, t, p, ha, ht, hp, hg, hs, rfl⟩ := (lms_mem h).mp hc
  obtain ⟨e1, e2, e3⟩ := cod_1 ha ht (p := p)
  have hp6 := pml_le hp
  obtain ⟨K', q1, q2, q3⟩ := m_keep (show lv < 4 by omega) P.1 P.2.1 P.2.2.1 P.2.2.2.1 q K
  refine ⟨K', ?_, q2, q3⟩
  rw [fn_M_make, q1]
  refine hd_b rfl ?_
  have g1 := m_go h.1.1 h.1.2.1 ha ht hp6 hg (iI ((P.2.2.2.1 : Int) - 1)) q
  rw [cod_a ha ht hp6, cod_t ha ht hp6, cod_p ha ht hp6]
  refine hd_b g1 ?_
  rw [nxp, qnc, e1, e2, e3]
theorem nxp_out {P : Ps} {c : Nat} {j : Nat} (hj : 64 ≤ j) : bq (nxp P c).1 j = bq P.1 j := by
  show iI _ = iI _
  rw [nxp]
  show iI ((mvb P.1 P.2.1 (c % 64) (c / 64 % 64) (c / 4096) j).val : Int) = _
  rw [mv_out (by omega) (by omega) hj]
def mtd (P : Ps) : Bool := chp P && (lmp P).isEmpty
def m1 (P : Ps) : Bool := (lmp P).any fun c => mtd (nxp P c)
def alm (P : Ps) : Bool := !(lmp P).isEmpty && (lmp P).all fun c => m1 (nxp P c)
def m2 (P : Ps) : Bool := (lmp P).any fun c => alm (nxp P c)
theorem m_chk {P : Ps} (h : pvp P) : fn_M_isChecked (bq P.1) (iI (P.2.1 : Int)) = some (ge_z (chp P)) := m_isChecked h.1.1 (pv_ok h h.1.1)
theorem once_lo {P : Ps} (h : pvp P) {lv : Nat} (hlv : lv < 3) (q : Int32) : ∀ (m : List Nat) (j n : Nat) (K : KT) (li : Nat → Int32), (∀ c ∈ m, c ∈ lmp P) → j + m.length ≤ 415 → m.length + 1 ≤ n → (∀ i (hi : i < m.length), li (440 * lv + (j + i)) = iI ((m[i] : Nat) : Int)) →
    ∃ K' : KT, lo_M_matesAtOnce_8 (iI (lv : Int)) n (iI (P.2.1 : Int)) (iI (P.2.2.1 : Int)) (iI ((P.2.2.2.1 : Int) - 1)) q (bq P.1) K.1 K.2.1 K.2.2.1 K.2.2.2.1 K.2.2.2.2 li (iI ((j + m.length : Nat) : Int)) (iI (j : Int)) = some (ge_z (m.any fun c => mtd (nxp P c)), iI (P.2.1 : Int), iI (P.2.2.1 : Int), iI ((P.2.2.2.1 : Int) - 1), q, bq P.1, K'.1, K'.2.1, K'.2.2.1, K'.2.2.2.1, K'.2.2.2.2, li) ∧ kag lv K K' := by
  intro m
  induction m with
  | nil =>
    intro j n K li hc hj hn hl
    obtain ⟨n, rfl⟩ : ∃ n', n = n' + 1 := ⟨n - 1, by simp at hn; omega⟩
    refine ⟨K, ?_, kag_r _ _⟩
    rw [lo_M_matesAtOnce_8_s]
    refine hd_T ?_ rfl
    rw [List.length_nil, Nat.add_zero]
    exact Int32.le_refl _
  | cons c m ih =>
    intro j n K li hc hj hn hl
    obtain ⟨n, rfl⟩ : ∃ n', n = n' + 1 := ⟨n - 1, by simp at hn; omega⟩
    rw [List.length_cons] at hj hn
    have hlen : (j + (c :: m).length : Nat) = (j + 1) + m.length := by rw [List.length_cons]; omega
    have hcm := hc c List.mem_cons_self
    have e0 : li (440 * lv + j) = iI (c : Int) := hl 0 (by simp)
    obtain ⟨K1, q1, q2, q3⟩ := m_make h hcm hlv q K
    have hn1 := nxp_pv h hcm
    have ck := m_chk hn1
    obtain ⟨K2, r1, r2⟩ := m_anyMove hn1 (qnc P c q) K1
    have hstep : ∀ (K9 : KT), kpt lv P.1 P.2.1 P.2.2.1 P.2.2.2.1 q K9 → kag lv K K9 → ∃ K' : KT, bk_M_matesAtOnce_53 (iI (lv : Int)) (lo_M_matesAtOnce_8 (iI (lv : Int)) n) (iI ((nxp P c).2.1 : Int)) (iI ((nxp P c).2.2.1 : Int)) (iI (((nxp P c).2.2.2.1 : Int) - 1)) (qnc P c q) (bq (nxp P c).1) K9.1 K9.2.1 K9.2.2.1 K9.2.2.2.1 K9.2.2.2.2 li (iI ((j + 1 + m.length : Nat) : Int)) (iI (j : Int)) 0 = some (ge_z (m.any fun c => mtd (nxp P c)), iI (P.2.1 : Int), iI (P.2.2.1 : Int), iI ((P.2.2.2.1 : Int) - 1), q, bq P.1, K'.1, K'.2.1, K'.2.2.1, K'.2.2.2.1, K'.2.2.2.2, li) ∧ kag lv K K' := by
      intro K9 h9 a9
      obtain ⟨K', s1, s2⟩ := ih (j + 1) n K9 li (fun x hx => hc x (List.mem_cons_of_mem _ hx)) (by omega) (by omega) (fun i hi => by
        have := hl (i + 1) (by simp; omega)
        rw [show j + 1 + i = j + (i + 1) by omega, this]; rfl)
      refine ⟨K', ?_, kag_t a9 s2⟩
      rw [bk_M_matesAtOnce_53]
      refine hd_b (m_back (show lv < 4 by omega) h9 _ _ _ _ (fun i hi => nxp_out hi)) (hd_T rfl ?_)
      rw [← s1]
      show lo_M_matesAtOnce_8 _ n _ _ _ _ _ _ _ _ _ _ _ _ (iI (j : Int) + 1) = _
      rw [iI_s1]
    rw [hlen, lo_M_matesAtOnce_8_s, i440, iI_cn (show 440 * lv + j < _ by omega), e0]
    rw [List.any_cons]
    have hF : ¬ iI ((j + 1 + m.length : Nat) : Int) ≤ iI (j : Int) := by rw [iI_le (by omega) (by omega) (by omega) (by omega)]; omega
    have hin : qq_in (iI ((440 * lv + j : Nat) : Int)) 1320 = true := iI_in (by omega) (by omega) (by omega)
    cases hx : chp (nxp P c) with
    | false =>
      rw [hx] at ck
      obtain ⟨K', s1, s2⟩ := hstep K1 q2 q3
      refine ⟨K', ?_, s2⟩
      have em : mtd (nxp P c) = false := by rw [mtd, hx]; rfl
      rw [em, Bool.false_or]
      refine hd_F hF (hd_ck hin (hd_b q1 (hd_b ck (hd_T rfl ?_))))
      exact s1
    | true =>
      rw [hx] at ck
      have em : mtd (nxp P c) = (lmp (nxp P c)).isEmpty := by rw [mtd, hx]; rfl
      rw [em]
      have k2 := kpt_a q2 (show lv < 3 by omega) r2
      have a2 := kag_t q3 (kag_m r2 (show lv ≤ 3 by omega))
      have r1' : fn_M_anyMove (iI ((nxp P c).2.1 : Int)) (iI ((nxp P c).2.2.1 : Int)) (iI (((nxp P c).2.2.2.1 : Int) - 1)) (qnc P c q) (bq (nxp P c).1) K1.1 K1.2.1 K1.2.2.1 K1.2.2.2.1 K1.2.2.2.2 = some (ge_z (!(lmp (nxp P c)).isEmpty), _) := r1
      cases hy : (lmp (nxp P c)).isEmpty with
      | false =>
        rw [hy] at r1'
        obtain ⟨K', s1, s2⟩ := hstep K2 k2 a2
        refine ⟨K', ?_, s2⟩
        rw [Bool.false_or]
        refine hd_F hF (hd_ck hin (hd_b q1 (hd_b ck (hd_F gzT (hd_b r1' (hd_F gzT ?_))))))
        exact s1
      | true =>
        rw [hy] at r1'
        refine ⟨K2, ?_, a2⟩
        rw [Bool.true_or]
        refine hd_F hF (hd_ck hin (hd_b q1 (hd_b ck (hd_F gzT (hd_b r1' (hd_T rfl ?_))))))
        rw [bk_M_matesAtOnce_53]
        refine hd_b (m_back (show lv < 4 by omega) k2 _ _ _ _ (fun i hi => nxp_out hi)) (hd_F (by decide) rfl)
theorem m_once {P : Ps} (h : pvp P) {lv : Nat} (hlv : lv < 3) (q : Int32) (K : KT) (li : Nat → Int32) :
    ∃ (K' : KT) (li' : Nat → Int32), fn_M_matesAtOnce (iI (P.2.1 : Int)) (iI (P.2.2.1 : Int)) (iI ((P.2.2.2.1 : Int) - 1)) q (bq P.1) K.1 K.2.1 K.2.2.1 K.2.2.2.1 K.2.2.2.2 li (iI (lv : Int)) = some (ge_z (m1 P), iI (P.2.1 : Int), iI (P.2.2.1 : Int), iI ((P.2.2.2.1 : Int) - 1), q, bq P.1, K'.1, K'.2.1, K'.2.2.1, K'.2.2.2.1, K'.2.2.2.2, li') ∧ kag lv K K' ∧ lbl lv li li' := by
  obtain ⟨K1, li1, q1, q2, q3, q4⟩ := m_collect h hlv q K li
  have hl := lms_len h
  obtain ⟨K2, r1, r2⟩ := once_lo h hlv q (lmp P) 0 qq_FU K1 li1 (fun c hc => hc) (by show 0 + (lms _ _ _ _ _).length ≤ 415; omega) (by rw [fu1]; show (lms _ _ _ _ _).length + 1 ≤ _; omega) (fun i hi => by rw [Nat.zero_add]; exact q3 i hi)
  rw [Nat.zero_add, show iI ((0 : Nat) : Int) = 0 from rfl] at r1
  refine ⟨K2, li1, ?_, kag_t (kag_m q2 (by omega)) r2, q4⟩
  rw [fn_M_matesAtOnce]
  exact hd_b q1 r1
theorem all_lo {P : Ps} (h : pvp P) (q : Int32) : ∀ (m : List Nat) (j n : Nat) (K : KT) (li : Nat → Int32) (acc : Bool), (∀ c ∈ m, c ∈ lmp P) → j + m.length ≤ 415 → m.length + 1 ≤ n → (∀ i (hi : i < m.length), li (440 * 1 + (j + i)) = iI ((m[i] : Nat) : Int)) →
    ∃ (K' : KT) (li' : Nat → Int32), lo_M_allMated_18 n (iI (P.2.1 : Int)) (iI (P.2.2.1 : Int)) (iI ((P.2.2.2.1 : Int) - 1)) q (bq P.1) K.1 K.2.1 K.2.2.1 K.2.2.2.1 K.2.2.2.2 li (iI ((j + m.length : Nat) : Int)) (ge_z acc) (iI (j : Int)) = some (ge_z (acc && m.all fun c => m1 (nxp P c)), iI (P.2.1 : Int), iI (P.2.2.1 : Int), iI ((P.2.2.2.1 : Int) - 1), q, bq P.1, K'.1, K'.2.1, K'.2.2.1, K'.2.2.2.1, K'.2.2.2.2, li') ∧ kag 1 K K' ∧ lbl 1 li li' := by
  intro m
  induction m with
  | nil =>
    intro j n K li acc hc hj hn hl
    obtain ⟨n, rfl⟩ : ∃ n', n = n' + 1 := ⟨n - 1, by simp at hn; omega⟩
    refine ⟨K, li, ?_, kag_r _ _, fun _ _ => rfl⟩
    rw [lo_M_allMated_18_s]
    refine hd_T ?_ ?_
    · rw [List.length_nil, Nat.add_zero]; exact Int32.le_refl _
    · rw [bk_M_allMated_59]
      refine hd_ck (iI_bz _) ?_
      rw [List.all_nil, Bool.and_true]
  | cons c m ih =>
    intro j n K li acc hc hj hn hl
    obtain ⟨n, rfl⟩ : ∃ n', n = n' + 1 := ⟨n - 1, by simp at hn; omega⟩
    rw [List.length_cons] at hj hn
    have hlen : (j + (c :: m).length : Nat) = (j + 1) + m.length := by rw [List.length_cons]; omega
    have hcm := hc c List.mem_cons_self
    have e0 : li (440 + j) = iI (c : Int) := hl 0 (by simp)
    have hF : ¬ iI ((j + 1 + m.length : Nat) : Int) ≤ iI (j : Int) := by rw [iI_le (by omega) (by omega) (by omega) (by omega)]; omega
    have i4 : (440 : Int32) + iI (j : Int) = iI ((440 + j : Nat) : Int) := by
      show iI 440 + iI _ = _
      rw [iI_add]; congr 1
    rw [hlen, lo_M_allMated_18_s, i4, iI_cn (show 440 + j < _ by omega), e0]
    cases acc with
    | false =>
      refine ⟨K, li, ?_, kag_r _ _, fun _ _ => rfl⟩
      refine hd_F hF (hd_T rfl ?_)
      rw [bk_M_allMated_59]
      exact hd_ck (by decide) rfl
    | true =>
      obtain ⟨K1, q1, q2, q3⟩ := m_make h hcm (show 1 < 3 by omega) q K
      have hn1 := nxp_pv h hcm
      obtain ⟨K2, li2, r1, r2, r3⟩ := m_once hn1 (show 2 < 3 by omega) (qnc P c q) K1 li
      have k2 := kpt_a q2 (show 1 < 2 by omega) r2
      have a2 := kag_t q3 (kag_m r2 (show 1 ≤ 2 by omega))
      obtain ⟨K3, li3, s1, s2, s3⟩ := ih (j + 1) n K2 li2 (m1 (nxp P c)) (fun x hx => hc x (List.mem_cons_of_mem _ hx)) (by omega) (by omega) (fun i hi => by
        have := hl (i + 1) (by simp; omega)
        rw [r3 _ (by omega), show j + 1 + i = j + (i + 1) by omega, this]; rfl)
      refine ⟨K3, li3, ?_, kag_t a2 s2, fun i hi => (s3 i hi).trans (r3 i (by omega))⟩
      rw [List.all_cons, Bool.true_and]
      have hin : qq_in (iI ((440 + j : Nat) : Int)) 1320 = true := iI_in (by omega) (by omega) (by omega)
      refine hd_F hF (hd_F gzT (hd_ck hin (hd_b q1 (hd_b r1 ?_))))
      refine hd_b (m_back (show 1 < 4 by omega) k2 _ _ _ _ (fun i hi => nxp_out hi)) ?_
      rw [← s1]
      show lo_M_allMated_18 n _ _ _ _ _ _ _ _ _ _ _ _ _ (iI (j : Int) + 1) = _
      rw [iI_s1]
theorem m_allMated {P : Ps} (h : pvp P) (q : Int32) (K : KT) (li : Nat → Int32) :
    ∃ (K' : KT) (li' : Nat → Int32), fn_M_allMated (iI (P.2.1 : Int)) (iI (P.2.2.1 : Int)) (iI ((P.2.2.2.1 : Int) - 1)) q (bq P.1) K.1 K.2.1 K.2.2.1 K.2.2.2.1 K.2.2.2.2 li = some (ge_z (alm P), iI (P.2.1 : Int), iI (P.2.2.1 : Int), iI ((P.2.2.2.1 : Int) - 1), q, bq P.1, K'.1, K'.2.1, K'.2.2.1, K'.2.2.2.1, K'.2.2.2.2, li') ∧ kag 1 K K' ∧ lbl 1 li li' := by
  obtain ⟨K1, li1, q1, q2, q3, q4⟩ := m_collect h (show 1 < 3 by omega) q K li
  have hl : (lmp P).length ≤ 415 := lms_len h
  obtain ⟨K2, li2, r1, r2, r3⟩ := all_lo h q (lmp P) 0 qq_FU K1 li1 (!(lmp P).isEmpty) (fun c hc => hc) (by omega) (by rw [fu1]; omega) (fun i hi => by rw [Nat.zero_add]; exact q3 i hi)
  rw [Nat.zero_add, show iI ((0 : Nat) : Int) = 0 from rfl] at r1
  refine ⟨K2, li2, ?_, kag_t (kag_m q2 (by omega)) r2, fun i hi => (r3 i hi).trans (q4 i hi)⟩
  rw [fn_M_allMated]
  refine hd_b q1 ?_
  have el : lms P.1 P.2.1 P.2.2.1 P.2.2.2.1 P.2.2.2.2 = lmp P := rfl
  have ea : alm P = (!(lmp P).isEmpty && (lmp P).all fun c => m1 (nxp P c)) := rfl
  rw [el, ea]
  cases hx : lmp P with
  | nil =>
    rw [hx] at r1
    refine hd_T (by decide) ?_
    rw [show ge_z (!([] : List Nat).isEmpty) = 0 from rfl] at r1
    rw [bk_M_allMated_15]
    exact r1
  | cons c l =>
    rw [hx] at r1 hl
    refine hd_F (by show ¬ iI _ ≤ iI 0; rw [iI_le (by omega) (by omega) (by omega) (by omega)]; rw [List.length_cons]; omega) ?_
    rw [show ge_z (!(c :: l).isEmpty) = 1 from rfl] at r1
    rw [bk_M_allMated_15]
    exact r1
theorem two_lo {P : Ps} (h : pvp P) (q : Int32) : ∀ (m : List Nat) (j n : Nat) (K : KT) (li : Nat → Int32), (∀ c ∈ m, c ∈ lmp P) → j + m.length ≤ 415 → m.length + 1 ≤ n → (∀ i (hi : i < m.length), li (j + i) = iI ((m[i] : Nat) : Int)) → (∀ j, 440 ≤ j → True) →
    ∃ (K' : KT) (li' : Nat → Int32), lo_M_matesInTwo_8 n (iI (P.2.1 : Int)) (iI (P.2.2.1 : Int)) (iI ((P.2.2.2.1 : Int) - 1)) q (bq P.1) K.1 K.2.1 K.2.2.1 K.2.2.2.1 K.2.2.2.2 li (iI ((j + m.length : Nat) : Int)) (iI (j : Int)) = some (ge_z (m.any fun c => alm (nxp P c)), iI (P.2.1 : Int), iI (P.2.2.1 : Int), iI ((P.2.2.2.1 : Int) - 1), q, bq P.1, K'.1, K'.2.1, K'.2.2.1, K'.2.2.2.1, K'.2.2.2.2, li') := by
  intro m
  induction m with
  | nil =>
    intro j n K li hc hj hn hl _
    obtain ⟨n, rfl⟩ : ∃ n', n = n' + 1 := ⟨n - 1, by simp at hn; omega⟩
    refine ⟨K, li, ?_⟩
    rw [lo_M_matesInTwo_8_s]
    refine hd_T ?_ rfl
    rw [List.length_nil, Nat.add_zero]
    exact Int32.le_refl _
  | cons c m ih =>
    intro j n K li hc hj hn hl hz
    obtain ⟨n, rfl⟩ : ∃ n', n = n' + 1 := ⟨n - 1, by simp at hn; omega⟩
    rw [List.length_cons] at hj hn
    have hlen : (j + (c :: m).length : Nat) = (j + 1) + m.length := by rw [List.length_cons]; omega
    have hcm := hc c List.mem_cons_self
    have e0 : li j = iI (c : Int) := hl 0 (by simp)
    obtain ⟨K1, q1, q2, q3⟩ := m_make h hcm (show 0 < 3 by omega) q K
    have q1' : fn_M_make (iI (P.2.1 : Int)) (iI (P.2.2.1 : Int)) (iI ((P.2.2.2.1 : Int) - 1)) q (bq P.1) K.1 K.2.1 K.2.2.1 K.2.2.2.1 K.2.2.2.2 (iI (c : Int)) 0 = _ := q1
    have hn1 := nxp_pv h hcm
    obtain ⟨K2, li2, r1, r2, r3⟩ := m_allMated hn1 (qnc P c q) K1 li
    have k2 := kpt_a q2 (show 0 < 1 by omega) r2
    have hb := m_back (show 0 < 4 by omega) k2 (iI ((nxp P c).2.1 : Int)) (iI ((nxp P c).2.2.1 : Int)) (iI (((nxp P c).2.2.2.1 : Int) - 1)) (qnc P c q) (bd := bq (nxp P c).1) (fun i hi => nxp_out hi)
    have hb' : fn_M_back (iI ((nxp P c).2.1 : Int)) (iI ((nxp P c).2.2.1 : Int)) (iI (((nxp P c).2.2.2.1 : Int) - 1)) (qnc P c q) (bq (nxp P c).1) K2.1 K2.2.1 K2.2.2.1 K2.2.2.2.1 K2.2.2.2.2 0 = _ := hb
    have hF : ¬ iI ((j + 1 + m.length : Nat) : Int) ≤ iI (j : Int) := by rw [iI_le (by omega) (by omega) (by omega) (by omega)]; omega
    have hin : qq_in (iI (j : Int)) 1320 = true := iI_in (by omega) (by omega) (by omega)
    obtain ⟨K3, li3, s1⟩ := ih (j + 1) n K2 li2 (fun x hx => hc x (List.mem_cons_of_mem _ hx)) (by omega) (by omega) (fun i hi => by
        have := hl (i + 1) (by simp; omega)
        rw [r3 _ (by omega), show j + 1 + i = j + (i + 1) by omega, this]; rfl) hz
    rw [hlen, lo_M_matesInTwo_8_s, iI_cn (show j < _ by omega), e0, List.any_cons]
    cases hx : alm (nxp P c) with
    | false =>
      rw [hx] at r1
      refine ⟨K3, li3, ?_⟩
      rw [Bool.false_or]
      refine hd_F hF (hd_ck hin (hd_b q1' (hd_b r1 (hd_b hb' (hd_T rfl ?_)))))
      rw [← s1]
      show lo_M_matesInTwo_8 n _ _ _ _ _ _ _ _ _ _ _ _ (iI (j : Int) + 1) = _
      rw [iI_s1]
    | true =>
      rw [hx] at r1
      refine ⟨K2, li2, ?_⟩
      rw [Bool.true_or]
      exact hd_F hF (hd_ck hin (hd_b q1' (hd_b r1 (hd_b hb' (hd_F gzT rfl)))))
theorem m_inTwo {P : Ps} (h : pvp P) (q : Int32) (K : KT) (li : Nat → Int32) :
    ∃ (K' : KT) (li' : Nat → Int32), fn_M_matesInTwo (iI (P.2.1 : Int)) (iI (P.2.2.1 : Int)) (iI ((P.2.2.2.1 : Int) - 1)) q (bq P.1) K.1 K.2.1 K.2.2.1 K.2.2.2.1 K.2.2.2.2 li = some (ge_z (m2 P), iI (P.2.1 : Int), iI (P.2.2.1 : Int), iI ((P.2.2.2.1 : Int) - 1), q, bq P.1, K'.1, K'.2.1, K'.2.2.1, K'.2.2.2.1, K'.2.2.2.2, li') := by
  obtain ⟨K1, li1, q1, q2, q3, q4⟩ := m_collect h (show 0 < 3 by omega) q K li
  have q1' : fn_M_collect (iI (P.2.1 : Int)) (iI (P.2.2.1 : Int)) (iI ((P.2.2.2.1 : Int) - 1)) q (bq P.1) K.1 K.2.1 K.2.2.1 K.2.2.2.1 K.2.2.2.2 li 0 = _ := q1
  have hl : (lmp P).length ≤ 415 := lms_len h
  obtain ⟨K2, li2, r1⟩ := two_lo h q (lmp P) 0 qq_FU K1 li1 (fun c hc => hc) (by omega) (by rw [fu1]; omega) (fun i hi => by have := q3 i hi; rw [Nat.mul_zero] at this; exact this) (fun _ _ => trivial)
  rw [Nat.zero_add, show iI ((0 : Nat) : Int) = 0 from rfl] at r1
  refine ⟨K2, li2, ?_⟩
  rw [fn_M_matesInTwo]
  exact hd_b q1' r1
