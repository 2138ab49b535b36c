/-! ===== MissCurvesModel: plain tests, step by step ===== -/
section MU
variable {g : Gl} {M : Mem} {o ge n : Nat}
theorem me_plain0 {live b v b2 : Bool} {i i2 : Nat} (hR : Wp g Y_Mo_plainOf n 2 [some (.ref o), some (.int (bI live)), some (.int (bI false))] [] (emM M o i b) (emB M o v i2 b2)) : Ci g Y_Mo_plainOf n [.ref o, .int (bI live)] (emM M o i b) (fun x M2 => x = bI v ∧ M2 = emM M o i2 b2) := by
  refine cw_entry 1 pf_Mo_plainOf rfl ?_
  refine wp_iconst (v := nI 0) (by decide) (ck_get kk_Mo_plainOf 0 rfl) ?_
  refine wp_istore_n (ck_get kk_Mo_plainOf 1 rfl) (by decide) rfl ?_
  exact hR
theorem me_plainNot {live b v b2 no : Bool} {i i2 : Nat} (hM : MoAt (mT M) (mR M) o) (hge : mI M o 26 = nI ge) (hg2 : ge ≤ 2800) (hi : i < 100000) (h1 : tcd (mI M (o + 2)) ge i = nI 6) (hn : 2 ≤ n) (hR : Wp g Y_Mo_plainOf n 2 [some (.ref o), some (.int (bI live)), some (.int (bI (!no)))] [] (emM M o (i + 1) b) (emB M o v i2 b2)) : Wp g Y_Mo_plainOf n 2 [some (.ref o), some (.int (bI live)), some (.int (bI no))] [] (emM M o i b) (emB M o v i2 b2) := by
  have hM0 := hM
  have to0 := hM.1
  cases no
  · skip
    refine wp_aload_n rfl (ck_get kk_Mo_plainOf 2 rfl) ?_
    refine wp_bipush (v := nI 6) (by decide) (ck_get kk_Mo_plainOf 3 rfl) ?_
    refine wp_cV1i (ck_get kk_Mo_plainOf 4 rfl) ml_Mo_318 (by omega) (Nat.le_of_ble_eq_true rfl) (by assumption) (Ci.to (m_passes (by exact hM0) hge hg2 hi) ?_)
    rintro x₁ M₁ ⟨rfl, rfl⟩
    rw [decide_eq_true h1, if_pos h1]
    first | refine wp_if_eqN (t := 24) (ck_get kk_Mo_plainOf 5 rfl) (by decide) (by omega) (fun hc8 => ?_) (fun hc8 => ?_) | refine wp_if_eq (t := 24) (ck_get kk_Mo_plainOf 5 rfl) (by decide) (fun hc8 => ?_) (fun hc8 => ?_)
    · exact absurd hc8 (by decide)
    · refine wp_iload_n rfl (ck_get kk_Mo_plainOf 6 rfl) ?_
      first | refine wp_if_neN (t := 19) (ck_get kk_Mo_plainOf 7 rfl) (by decide) (by omega) (fun hc12 => ?_) (fun hc12 => ?_) | refine wp_if_ne (t := 19) (ck_get kk_Mo_plainOf 7 rfl) (by decide) (fun hc12 => ?_) (fun hc12 => ?_)
      · exact absurd rfl hc12
      · refine wp_iconst (v := nI 1) (by decide) (ck_get kk_Mo_plainOf 8 rfl) ?_
        refine wp_goto (t := 20) (ck_get kk_Mo_plainOf 9 rfl) (by decide) ?_
        refine wp_istore_n (ck_get kk_Mo_plainOf 11 rfl) (by decide) rfl ?_
        refine wp_goto (t := 2) (ck_get kk_Mo_plainOf 12 rfl) (by decide) ?_
        exact hR
  · skip
    refine wp_aload_n rfl (ck_get kk_Mo_plainOf 2 rfl) ?_
    refine wp_bipush (v := nI 6) (by decide) (ck_get kk_Mo_plainOf 3 rfl) ?_
    refine wp_cV1i (ck_get kk_Mo_plainOf 4 rfl) ml_Mo_318 (by omega) (Nat.le_of_ble_eq_true rfl) (by assumption) (Ci.to (m_passes (by exact hM0) hge hg2 hi) ?_)
    rintro x₁ M₁ ⟨rfl, rfl⟩
    rw [decide_eq_true h1, if_pos h1]
    first | refine wp_if_eqN (t := 24) (ck_get kk_Mo_plainOf 5 rfl) (by decide) (by omega) (fun hc8 => ?_) (fun hc8 => ?_) | refine wp_if_eq (t := 24) (ck_get kk_Mo_plainOf 5 rfl) (by decide) (fun hc8 => ?_) (fun hc8 => ?_)
    · exact absurd hc8 (by decide)
    · refine wp_iload_n rfl (ck_get kk_Mo_plainOf 6 rfl) ?_
      first | refine wp_if_neN (t := 19) (ck_get kk_Mo_plainOf 7 rfl) (by decide) (by omega) (fun hc12 => ?_) (fun hc12 => ?_) | refine wp_if_ne (t := 19) (ck_get kk_Mo_plainOf 7 rfl) (by decide) (fun hc12 => ?_) (fun hc12 => ?_)
      · refine wp_iconst (v := nI 0) (by decide) (ck_get kk_Mo_plainOf 10 rfl) ?_
        refine wp_istore_n (ck_get kk_Mo_plainOf 11 rfl) (by decide) rfl ?_
        refine wp_goto (t := 2) (ck_get kk_Mo_plainOf 12 rfl) (by decide) ?_
        exact hR
      · exact absurd hc12 (by decide)
theorem me_plainEnd {live b v b2 no : Bool} {i i2 : Nat} (hM : MoAt (mT M) (mR M) o) (hge : mI M o 26 = nI ge) (hg2 : ge ≤ 2800) (hi : i < 100000) (h1 : ¬ tcd (mI M (o + 2)) ge i = nI 6) (hn : 1 ≤ n) (hT : Ci g Y_Mo_positiveOf n [.ref o, .int (bI live)] (emM M o i b) (fun x M2 => x = bI v ∧ M2 = emM M o i2 b2)) : Wp g Y_Mo_plainOf (n + 1) 2 [some (.ref o), some (.int (bI live)), some (.int (bI no))] [] (emM M o i b) (emB M o (v != no) i2 b2) := by
  have hM0 := hM
  have to0 := hM.1
  refine wp_aload_n rfl (ck_get kk_Mo_plainOf 2 rfl) ?_
  refine wp_bipush (v := nI 6) (by decide) (ck_get kk_Mo_plainOf 3 rfl) ?_
  refine wp_cV1i (ck_get kk_Mo_plainOf 4 rfl) ml_Mo_318 (by omega) (Nat.le_of_ble_eq_true rfl) (by assumption) (Ci.to (m_passes (by exact hM0) hge hg2 hi) ?_)
  rintro x₁ M₁ ⟨rfl, rfl⟩
  rw [decide_eq_false h1, if_neg h1]
  first | refine wp_if_eqN (t := 24) (ck_get kk_Mo_plainOf 5 rfl) (by decide) (by omega) (fun hc8 => ?_) (fun hc8 => ?_) | refine wp_if_eq (t := 24) (ck_get kk_Mo_plainOf 5 rfl) (by decide) (fun hc8 => ?_) (fun hc8 => ?_)
  · refine wp_aload_n rfl (ck_get kk_Mo_plainOf 13 rfl) ?_
    refine wp_iload_n rfl (ck_get kk_Mo_plainOf 14 rfl) ?_
    refine wp_cV1i (ck_get kk_Mo_plainOf 15 rfl) ml_Mo_342 (by omega) (Nat.le_of_ble_eq_true rfl) (by assumption) (Ci.to (hT) ?_)
    rintro x₂ M₂ ⟨rfl, rfl⟩
    refine wp_iload_n rfl (ck_get kk_Mo_plainOf 16 rfl) ?_
    refine wp_icmp_eq (t := 37) (ck_get kk_Mo_plainOf 17 rfl) (by decide) (fun hc30 => ?_) (fun hc30 => ?_)
    · refine wp_iconst (v := nI 0) (by decide) (ck_get kk_Mo_plainOf 20 rfl) ?_
      refine wp_ireturn (ck_get kk_Mo_plainOf 21 rfl) rfl rfl ⟨_, rfl, ?_⟩
      exact ⟨by revert hc30; cases v <;> cases no <;> decide, rfl⟩
    · refine wp_iconst (v := nI 1) (by decide) (ck_get kk_Mo_plainOf 18 rfl) ?_
      refine wp_goto (t := 38) (ck_get kk_Mo_plainOf 19 rfl) (by decide) ?_
      refine wp_ireturn (ck_get kk_Mo_plainOf 21 rfl) rfl rfl ⟨_, rfl, ?_⟩
      exact ⟨by revert hc30; cases v <;> cases no <;> decide, rfl⟩
  · exact absurd rfl hc8
theorem me_posBr {live b b1 v : Bool} {i i1 : Nat} (hM : MoAt (mT M) (mR M) o) (hge : mI M o 26 = nI ge) (hg2 : ge ≤ 2800) (hi : i < 100000) (h1 : tcd (mI M (o + 2)) ge i = nI 140) (hn : 1 ≤ n) (hT : Ci g Y_Mo_testOf n [.ref o, .int (bI live)] (emM M o (i + 1) b) (fun x M2 => x = bI v ∧ M2 = emM M o i1 b1)) :
    Ci g Y_Mo_positiveOf (n + 1) [.ref o, .int (bI live)] (emM M o i b) (fun x M2 => x = bI v ∧ M2 = emM M o (i1 + 1) b1) := by
  refine cw_entry 5 pf_Mo_positiveOf rfl ?_
  have hM0 := hM
  have to0 := hM.1
  refine wp_aload_n rfl (ck_get kk_Mo_positiveOf 0 rfl) ?_
  refine wp_bipush (v := nI 40) (by decide) (ck_get kk_Mo_positiveOf 1 rfl) ?_
  refine wp_cS1i (ck_get kk_Mo_positiveOf 2 rfl) ml_Mo_253 (by omega) (Nat.le_of_ble_eq_true rfl) (Ci.to (m_signOf) ?_)
  rintro _ M1 ⟨rfl, eqm1⟩
  obtain rfl := eqm1.symm
  refine wp_cV1i (ck_get kk_Mo_positiveOf 3 rfl) ml_Mo_318 (by omega) (Nat.le_of_ble_eq_true rfl) (by assumption) (Ci.to (m_passes (by exact hM0) hge hg2 hi) ?_)
  rintro x₁ M₁ ⟨rfl, rfl⟩
  rw [decide_eq_true h1, if_pos h1]
  first | refine wp_if_eqN (t := 30) (ck_get kk_Mo_positiveOf 4 rfl) (by decide) (by omega) (fun hc9 => ?_) (fun hc9 => ?_) | refine wp_if_eq (t := 30) (ck_get kk_Mo_positiveOf 4 rfl) (by decide) (fun hc9 => ?_) (fun hc9 => ?_)
  · exact absurd hc9 (by decide)
  · refine wp_aload_n rfl (ck_get kk_Mo_positiveOf 5 rfl) ?_
    refine wp_iload_n rfl (ck_get kk_Mo_positiveOf 6 rfl) ?_
    refine wp_cV1i (ck_get kk_Mo_positiveOf 7 rfl) ml_Mo_345 (by omega) (Nat.le_of_ble_eq_true rfl) (by assumption) (Ci.to (hT) ?_)
    rintro x₂ M₂ ⟨rfl, rfl⟩
    refine wp_istore_n (ck_get kk_Mo_positiveOf 8 rfl) (by decide) rfl ?_
    refine wp_aload_n rfl (ck_get kk_Mo_positiveOf 9 rfl) ?_
    refine wp_dup rfl (ck_get kk_Mo_positiveOf 10 rfl) ?_
    refine wp_getIv (v := nI i1) (ck_get kk_Mo_positiveOf 11 rfl) fl_Mo_294 (by assumption) (emM_25) ?_
    refine wp_iconst (v := nI 1) (by decide) (ck_get kk_Mo_positiveOf 12 rfl) ?_
    first | refine wp_iaddN (ck_get kk_Mo_positiveOf 13 rfl) ?_ | refine wp_iadd (ck_get kk_Mo_positiveOf 13 rfl) ?_
    refine wp_putI (ck_get kk_Mo_positiveOf 14 rfl) fl_Mo_294 (by decide +kernel) (by assumption) (okI_int _) ?_
    rw [emM_go]
    refine wp_iload_n rfl (ck_get kk_Mo_positiveOf 15 rfl) ?_
    refine wp_ireturn (ck_get kk_Mo_positiveOf 16 rfl) rfl (bI_ok _) ⟨_, rfl, ?_⟩
    exact ⟨rfl, rfl⟩
/-- what a sign between two sums says -/
def cmpS (s : Int32) (a b : Int64) : Bool := if s = nI 160 then decide (a < b) else if s = nI 162 then decide (b < a) else decide (a = b)
theorem me_posCmp {live b b1 b2 : Bool} {i i1 i2 : Nat} {va vb : Int64} (hM : MoAt (mT M) (mR M) o) (hge : mI M o 26 = nI ge) (hg2 : ge ≤ 2800) (hi : i < 100000) (hi1 : i1 < 100000) (h1 : ¬ tcd (mI M (o + 2)) ge i = nI 140) (hn : 1 ≤ n) (hT : Cl g Y_Mo_sumOf n [.ref o, .int (bI live)] (emM M o i b) (fun x M2 => x = va ∧ M2 = emM M o i1 b1)) (hT2 : Cl g Y_Mo_sumOf n [.ref o, .int (bI live)] (emM M o (i1 + 1) b1) (fun x M2 => x = vb ∧ M2 = emM M o i2 b2)) :
    Ci g Y_Mo_positiveOf (n + 1) [.ref o, .int (bI live)] (emM M o i b) (fun x M2 => x = bI (live && (!b2 && cmpS (tcd (mI M (o + 2)) ge i1) va vb)) ∧ M2 = emM M o i2 b2) := by
  refine cw_entry 5 pf_Mo_positiveOf rfl ?_
  have hM0 := hM
  have to0 := hM.1
  refine wp_aload_n rfl (ck_get kk_Mo_positiveOf 0 rfl) ?_
  refine wp_bipush (v := nI 40) (by decide) (ck_get kk_Mo_positiveOf 1 rfl) ?_
  refine wp_cS1i (ck_get kk_Mo_positiveOf 2 rfl) ml_Mo_253 (by omega) (Nat.le_of_ble_eq_true rfl) (Ci.to (m_signOf) ?_)
  rintro _ M1 ⟨rfl, eqm1⟩
  obtain rfl := eqm1.symm
  refine wp_cV1i (ck_get kk_Mo_positiveOf 3 rfl) ml_Mo_318 (by omega) (Nat.le_of_ble_eq_true rfl) (by assumption) (Ci.to (m_passes (by exact hM0) hge hg2 hi) ?_)
  rintro x₁ M₁ ⟨rfl, rfl⟩
  rw [decide_eq_false h1, if_neg h1]
  first | refine wp_if_eqN (t := 30) (ck_get kk_Mo_positiveOf 4 rfl) (by decide) (by omega) (fun hc9 => ?_) (fun hc9 => ?_) | refine wp_if_eq (t := 30) (ck_get kk_Mo_positiveOf 4 rfl) (by decide) (fun hc9 => ?_) (fun hc9 => ?_)
  · refine wp_aload_n rfl (ck_get kk_Mo_positiveOf 17 rfl) ?_
    refine wp_iload_n rfl (ck_get kk_Mo_positiveOf 18 rfl) ?_
    refine wp_cV1l (ck_get kk_Mo_positiveOf 19 rfl) ml_Mo_321 (by omega) (Nat.le_of_ble_eq_true rfl) (by assumption) (Cl.to (hT) ?_)
    rintro x₂ M₂ ⟨ex₂, rfl⟩
    refine wp_lstore_n (ck_get kk_Mo_positiveOf 20 rfl) (by decide) rfl ?_
    refine wp_aload_n rfl (ck_get kk_Mo_positiveOf 21 rfl) ?_
    refine wp_aload_n rfl (ck_get kk_Mo_positiveOf 22 rfl) ?_
    refine wp_getIv (v := nI i1) (ck_get kk_Mo_positiveOf 23 rfl) fl_Mo_294 (by assumption) (emM_25) ?_
    refine wp_cV1i (ck_get kk_Mo_positiveOf 24 rfl) ml_Mo_297 (by omega) (Nat.le_of_ble_eq_true rfl) (by assumption) (Ci.to (m_codeAt (by exact hM0) hge hg2 hi1) ?_)
    rintro _ M1 ⟨rfl, eqm1⟩
    obtain rfl := eqm1.symm
    refine wp_istore (ck_get kk_Mo_positiveOf 25 rfl) (by decide) rfl ?_
    refine wp_aload_n rfl (ck_get kk_Mo_positiveOf 26 rfl) ?_
    refine wp_dup rfl (ck_get kk_Mo_positiveOf 27 rfl) ?_
    refine wp_getIv (v := nI i1) (ck_get kk_Mo_positiveOf 28 rfl) fl_Mo_294 (by assumption) (emM_25) ?_
    refine wp_iconst (v := nI 1) (by decide) (ck_get kk_Mo_positiveOf 29 rfl) ?_
    first | refine wp_iaddN (ck_get kk_Mo_positiveOf 30 rfl) ?_ | refine wp_iadd (ck_get kk_Mo_positiveOf 30 rfl) ?_
    refine wp_putI (ck_get kk_Mo_positiveOf 31 rfl) fl_Mo_294 (by decide +kernel) (by assumption) (okI_int _) ?_
    rw [emM_go]
    refine wp_aload_n rfl (ck_get kk_Mo_positiveOf 32 rfl) ?_
    refine wp_iload_n rfl (ck_get kk_Mo_positiveOf 33 rfl) ?_
    refine wp_cV1l (ck_get kk_Mo_positiveOf 34 rfl) ml_Mo_321 (by omega) (Nat.le_of_ble_eq_true rfl) (by assumption) (Cl.to (hT2) ?_)
    rintro x₃ M₃ ⟨ex₃, rfl⟩
    rw [ex₂, ex₃]
    refine wp_lstore (ck_get kk_Mo_positiveOf 35 rfl) (by decide) rfl ?_
    refine wp_iload_n rfl (ck_get kk_Mo_positiveOf 36 rfl) ?_
    first | refine wp_if_eqN (t := 125) (ck_get kk_Mo_positiveOf 37 rfl) (by decide) (by omega) (fun hc64 => ?_) (fun hc64 => ?_) | refine wp_if_eq (t := 125) (ck_get kk_Mo_positiveOf 37 rfl) (by decide) (fun hc64 => ?_) (fun hc64 => ?_)
    · refine wp_iconst (v := nI 0) (by decide) (ck_get kk_Mo_positiveOf 65 rfl) ?_
      refine wp_ireturn (ck_get kk_Mo_positiveOf 66 rfl) rfl rfl ⟨_, rfl, ?_⟩
      exact ⟨by rw [bI_t0 hc64]; rfl, rfl⟩
    · refine wp_aload_n rfl (ck_get kk_Mo_positiveOf 38 rfl) ?_
      refine wp_getIv (v := bI b2) (ck_get kk_Mo_positiveOf 39 rfl) fl_Mo_304 (by assumption) (emM_27) ?_
      first | refine wp_if_neN (t := 125) (ck_get kk_Mo_positiveOf 40 rfl) (by decide) (by omega) (fun hc71 => ?_) (fun hc71 => ?_) | refine wp_if_ne (t := 125) (ck_get kk_Mo_positiveOf 40 rfl) (by decide) (fun hc71 => ?_) (fun hc71 => ?_)
      · refine wp_iconst (v := nI 0) (by decide) (ck_get kk_Mo_positiveOf 65 rfl) ?_
        refine wp_ireturn (ck_get kk_Mo_positiveOf 66 rfl) rfl rfl ⟨_, rfl, ?_⟩
        exact ⟨by rw [bI_t1 hc71]; simp [bI], rfl⟩
      · refine wp_iload rfl (ck_get kk_Mo_positiveOf 41 rfl) ?_
        refine wp_bipush (v := nI 60) (by decide) (ck_get kk_Mo_positiveOf 42 rfl) ?_
        refine wp_cS1i (ck_get kk_Mo_positiveOf 43 rfl) ml_Mo_253 (by omega) (Nat.le_of_ble_eq_true rfl) (Ci.to (m_signOf) ?_)
        rintro _ M1 ⟨rfl, eqm1⟩
        obtain rfl := eqm1.symm
        refine wp_icmp_ne (t := 94) (ck_get kk_Mo_positiveOf 44 rfl) (by decide) (fun hc81 => ?_) (fun hc81 => ?_)
        · refine wp_iload rfl (ck_get kk_Mo_positiveOf 50 rfl) ?_
          refine wp_bipush (v := nI 62) (by decide) (ck_get kk_Mo_positiveOf 51 rfl) ?_
          refine wp_cS1i (ck_get kk_Mo_positiveOf 52 rfl) ml_Mo_253 (by omega) (Nat.le_of_ble_eq_true rfl) (Ci.to (m_signOf) ?_)
          rintro _ M1 ⟨rfl, eqm1⟩
          obtain rfl := eqm1.symm
          refine wp_icmp_ne (t := 114) (ck_get kk_Mo_positiveOf 53 rfl) (by decide) (fun hc101 => ?_) (fun hc101 => ?_)
          · refine wp_lload_n rfl (ck_get kk_Mo_positiveOf 59 rfl) ?_
            refine wp_lload rfl (ck_get kk_Mo_positiveOf 60 rfl) ?_
            refine wp_lcmp (ck_get kk_Mo_positiveOf 61 rfl) ?_
            refine wp_if_ne (t := 125) (ck_get kk_Mo_positiveOf 62 rfl) (by decide) (fun hc118 => ?_) (fun hc118 => ?_)
            · refine wp_iconst (v := nI 0) (by decide) (ck_get kk_Mo_positiveOf 65 rfl) ?_
              refine wp_ireturn (ck_get kk_Mo_positiveOf 66 rfl) rfl rfl ⟨_, rfl, ?_⟩
              exact ⟨by rw [bI_t1 hc64, bI_t0 hc71, cmpS, if_neg hc81, if_neg hc101, decide_eq_false (fun q => hc118 ((lcmp_eq _ _).mpr q))]; rfl, rfl⟩
            · refine wp_iconst (v := nI 1) (by decide) (ck_get kk_Mo_positiveOf 63 rfl) ?_
              refine wp_goto (t := 126) (ck_get kk_Mo_positiveOf 64 rfl) (by decide) ?_
              refine wp_ireturn (ck_get kk_Mo_positiveOf 66 rfl) rfl rfl ⟨_, rfl, ?_⟩
              exact ⟨by rw [bI_t1 hc64, bI_t0 hc71, cmpS, if_neg hc81, if_neg hc101, decide_eq_true ((lcmp_eq _ _).mp hc118)]; rfl, rfl⟩
          · refine wp_lload_n rfl (ck_get kk_Mo_positiveOf 54 rfl) ?_
            refine wp_lload rfl (ck_get kk_Mo_positiveOf 55 rfl) ?_
            refine wp_lcmp (ck_get kk_Mo_positiveOf 56 rfl) ?_
            refine wp_if_le (t := 125) (ck_get kk_Mo_positiveOf 57 rfl) (by decide) (fun hc108 => ?_) (fun hc108 => ?_)
            · refine wp_iconst (v := nI 0) (by decide) (ck_get kk_Mo_positiveOf 65 rfl) ?_
              refine wp_ireturn (ck_get kk_Mo_positiveOf 66 rfl) rfl rfl ⟨_, rfl, ?_⟩
              have q₁ := (lcmp_le _ _).mp hc108
              exact ⟨by rw [bI_t1 hc64, bI_t0 hc71, cmpS, if_neg hc81, if_pos hc101, decide_eq_false q₁]; rfl, rfl⟩
            · refine wp_goto (t := 121) (ck_get kk_Mo_positiveOf 58 rfl) (by decide) ?_
              refine wp_iconst (v := nI 1) (by decide) (ck_get kk_Mo_positiveOf 63 rfl) ?_
              refine wp_goto (t := 126) (ck_get kk_Mo_positiveOf 64 rfl) (by decide) ?_
              refine wp_ireturn (ck_get kk_Mo_positiveOf 66 rfl) rfl rfl ⟨_, rfl, ?_⟩
              have q₁ : vb < va := Classical.not_not.mp (fun q₂ => hc108 ((lcmp_le _ _).mpr q₂))
              exact ⟨by rw [bI_t1 hc64, bI_t0 hc71, cmpS, if_neg hc81, if_pos hc101, decide_eq_true q₁]; rfl, rfl⟩
        · refine wp_lload_n rfl (ck_get kk_Mo_positiveOf 45 rfl) ?_
          refine wp_lload rfl (ck_get kk_Mo_positiveOf 46 rfl) ?_
          refine wp_lcmp (ck_get kk_Mo_positiveOf 47 rfl) ?_
          refine wp_if_ge (t := 125) (ck_get kk_Mo_positiveOf 48 rfl) (by decide) (fun hc88 => ?_) (fun hc88 => ?_)
          · refine wp_iconst (v := nI 0) (by decide) (ck_get kk_Mo_positiveOf 65 rfl) ?_
            refine wp_ireturn (ck_get kk_Mo_positiveOf 66 rfl) rfl rfl ⟨_, rfl, ?_⟩
            have q₁ := (lcmp_ge _ _).mp hc88
            exact ⟨by rw [bI_t1 hc64, bI_t0 hc71, cmpS, if_pos hc81, decide_eq_false q₁]; rfl, rfl⟩
          · refine wp_goto (t := 121) (ck_get kk_Mo_positiveOf 49 rfl) (by decide) ?_
            refine wp_iconst (v := nI 1) (by decide) (ck_get kk_Mo_positiveOf 63 rfl) ?_
            refine wp_goto (t := 126) (ck_get kk_Mo_positiveOf 64 rfl) (by decide) ?_
            refine wp_ireturn (ck_get kk_Mo_positiveOf 66 rfl) rfl rfl ⟨_, rfl, ?_⟩
            have q₁ : va < vb := Classical.not_not.mp (fun q₂ => hc88 ((lcmp_ge _ _).mpr q₂))
            exact ⟨by rw [bI_t1 hc64, bI_t0 hc71, cmpS, if_pos hc81, decide_eq_true q₁]; rfl, rfl⟩
  · exact absurd rfl hc9
end MU
