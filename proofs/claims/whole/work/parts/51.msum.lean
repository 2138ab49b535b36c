/-! ===== MissCurvesModel: sums and terms, step by step ===== -/
section MS
variable {g : Gl} {M : Mem} {o ge n : Nat}
abbrev emQ (M : Mem) (o : Nat) (v : Int64) (i : Nat) (b : Bool) : Option Value → Mem → Prop := fun r M2 => ∃ x, r = some (.long x) ∧ x = v ∧ M2 = emM M o i b
theorem me_sum0 {live b b1 : Bool} {i i1 : Nat} {v1 v : Int64} {i2 : Nat} {b2 : Bool} (hM : MoAt (mT M) (mR M) o) (hT : Cl g Y_Mo_termOf n [.ref o, .int (bI live)] (emM M o i b) (fun x M2 => x = v1 ∧ M2 = emM M o i1 b1))
    (hR : Wp g Y_Mo_sumOf (n + 1) 6 [some (.ref o), some (.int (bI live)), some (.long v1), none, none, none, none] [] (emM M o i1 b1) (emQ M o v i2 b2)) : Cl g Y_Mo_sumOf (n + 1) [.ref o, .int (bI live)] (emM M o i b) (fun x M2 => x = v ∧ M2 = emM M o i2 b2) := by
  refine cw_entry 5 pf_Mo_sumOf rfl ?_
  have to0 := hM.1
  refine wp_aload_n rfl (ck_get kk_Mo_sumOf 0 rfl) ?_
  refine wp_iload_n rfl (ck_get kk_Mo_sumOf 1 rfl) ?_
  refine wp_cV1l (ck_get kk_Mo_sumOf 2 rfl) ml_Mo_307 (by omega) (Nat.le_of_ble_eq_true rfl) (by assumption) (Cl.to (hT) ?_)
  rintro x M2 ⟨rfl, rfl⟩
  refine wp_lstore_n (ck_get kk_Mo_sumOf 3 rfl) (by decide) rfl ?_
  exact hR
theorem me_sumEnd {live b : Bool} {i : Nat} {v : Int64} {x4 x5 x6 : Option Value} (hM : MoAt (mT M) (mR M) o) (hge : mI M o 26 = nI ge) (hg2 : ge ≤ 2800) (hi : i < 100000) (h1 : ¬ tcd (mI M (o + 2)) ge i = nI 143) (h2 : ¬ tcd (mI M (o + 2)) ge i = nI 145) :
    Wp g Y_Mo_sumOf (n + 1) 6 [some (.ref o), some (.int (bI live)), some (.long v), none, x4, x5, x6] [] (emM M o i b) (emQ M o v i b) := by
  have hM0 := hM
  have to0 := hM.1
  refine wp_aload_n rfl (ck_get kk_Mo_sumOf 4 rfl) ?_
  refine wp_aload_n rfl (ck_get kk_Mo_sumOf 5 rfl) ?_
  refine wp_getIv (v := nI i) (ck_get kk_Mo_sumOf 6 rfl) fl_Mo_294 (by assumption) (emM_25) ?_
  refine wp_cV1i (ck_get kk_Mo_sumOf 7 rfl) ml_Mo_297 (by omega) (Nat.le_of_ble_eq_true rfl) (by assumption) (Ci.to (m_codeAt (by exact hM0) hge hg2 hi) ?_)
  rintro _ M1 ⟨rfl, eqm1⟩
  obtain rfl := eqm1.symm
  refine wp_bipush (v := nI 43) (by decide) (ck_get kk_Mo_sumOf 8 rfl) ?_
  refine wp_cS1i (ck_get kk_Mo_sumOf 9 rfl) ml_Mo_253 (by omega) (Nat.le_of_ble_eq_true rfl) (Ci.to (m_signOf) ?_)
  rintro _ M1 ⟨rfl, eqm1⟩
  obtain rfl := eqm1.symm
  refine wp_icmp_eq (t := 38) (ck_get kk_Mo_sumOf 10 rfl) (by decide) (fun hc19 => ?_) (fun hc19 => ?_)
  · exact absurd hc19 h1
  · refine wp_aload_n rfl (ck_get kk_Mo_sumOf 11 rfl) ?_
    refine wp_aload_n rfl (ck_get kk_Mo_sumOf 12 rfl) ?_
    refine wp_getIv (v := nI i) (ck_get kk_Mo_sumOf 13 rfl) fl_Mo_294 (by assumption) (emM_25) ?_
    refine wp_cV1i (ck_get kk_Mo_sumOf 14 rfl) ml_Mo_297 (by omega) (Nat.le_of_ble_eq_true rfl) (by assumption) (Ci.to (m_codeAt (by exact hM0) hge hg2 hi) ?_)
    rintro _ M1 ⟨rfl, eqm1⟩
    obtain rfl := eqm1.symm
    refine wp_bipush (v := nI 45) (by decide) (ck_get kk_Mo_sumOf 15 rfl) ?_
    refine wp_cS1i (ck_get kk_Mo_sumOf 16 rfl) ml_Mo_253 (by omega) (Nat.le_of_ble_eq_true rfl) (Ci.to (m_signOf) ?_)
    rintro _ M1 ⟨rfl, eqm1⟩
    obtain rfl := eqm1.symm
    refine wp_icmp_ne (t := 103) (ck_get kk_Mo_sumOf 17 rfl) (by decide) (fun hc35 => ?_) (fun hc35 => ?_)
    · refine wp_lload_n rfl (ck_get kk_Mo_sumOf 53 rfl) ?_
      refine wp_lreturn (ck_get kk_Mo_sumOf 54 rfl) rfl ⟨_, rfl, ?_⟩
      exact ⟨rfl, rfl⟩
    · exact absurd hc35 h2
theorem me_sumPlus {live b b1 : Bool} {i i1 : Nat} {v w z : Int64} {i2 : Nat} {b2 : Bool} {x4 x5 x6 : Option Value} (hM : MoAt (mT M) (mR M) o) (hge : mI M o 26 = nI ge) (hg2 : ge ≤ 2800) (hi : i < 100000) (h1 : tcd (mI M (o + 2)) ge i = nI 143) (hT : Cl g Y_Mo_termOf n [.ref o, .int (bI live)] (emM M o (i + 1) b) (fun x M2 => x = w ∧ M2 = emM M o i1 b1))
    (hR : ∀ y4 y5 y6, Wp g Y_Mo_sumOf (n + 1) 6 [some (.ref o), some (.int (bI live)), some (.long (bbv (v + w) live b1)), none, y4, y5, y6] [] (emM M o i1 (bbr (v + w) live b1)) (emQ M o z i2 b2)) :
    Wp g Y_Mo_sumOf (n + 1) 6 [some (.ref o), some (.int (bI live)), some (.long v), none, x4, x5, x6] [] (emM M o i b) (emQ M o z i2 b2) := by
  have hM0 := hM
  have to0 := hM.1
  refine wp_aload_n rfl (ck_get kk_Mo_sumOf 4 rfl) ?_
  refine wp_aload_n rfl (ck_get kk_Mo_sumOf 5 rfl) ?_
  refine wp_getIv (v := nI i) (ck_get kk_Mo_sumOf 6 rfl) fl_Mo_294 (by assumption) (emM_25) ?_
  refine wp_cV1i (ck_get kk_Mo_sumOf 7 rfl) ml_Mo_297 (by omega) (Nat.le_of_ble_eq_true rfl) (by assumption) (Ci.to (m_codeAt (by exact hM0) hge hg2 hi) ?_)
  rintro _ M1 ⟨rfl, eqm1⟩
  obtain rfl := eqm1.symm
  refine wp_bipush (v := nI 43) (by decide) (ck_get kk_Mo_sumOf 8 rfl) ?_
  refine wp_cS1i (ck_get kk_Mo_sumOf 9 rfl) ml_Mo_253 (by omega) (Nat.le_of_ble_eq_true rfl) (Ci.to (m_signOf) ?_)
  rintro _ M1 ⟨rfl, eqm1⟩
  obtain rfl := eqm1.symm
  refine wp_icmp_eq (t := 38) (ck_get kk_Mo_sumOf 10 rfl) (by decide) (fun hc19 => ?_) (fun hc19 => ?_)
  · refine wp_aload_n rfl (ck_get kk_Mo_sumOf 18 rfl) ?_
    refine wp_aload_n rfl (ck_get kk_Mo_sumOf 19 rfl) ?_
    refine wp_getIv (v := nI i) (ck_get kk_Mo_sumOf 20 rfl) fl_Mo_294 (by assumption) (emM_25) ?_
    refine wp_cV1i (ck_get kk_Mo_sumOf 21 rfl) ml_Mo_297 (by omega) (Nat.le_of_ble_eq_true rfl) (by assumption) (Ci.to (m_codeAt (by exact hM0) hge hg2 hi) ?_)
    rintro _ M1 ⟨rfl, eqm1⟩
    obtain rfl := eqm1.symm
    refine wp_bipush (v := nI 43) (by decide) (ck_get kk_Mo_sumOf 22 rfl) ?_
    refine wp_cS1i (ck_get kk_Mo_sumOf 23 rfl) ml_Mo_253 (by omega) (Nat.le_of_ble_eq_true rfl) (Ci.to (m_signOf) ?_)
    rintro _ M1 ⟨rfl, eqm1⟩
    obtain rfl := eqm1.symm
    refine wp_icmp_ne (t := 58) (ck_get kk_Mo_sumOf 24 rfl) (by decide) (fun hc51 => ?_) (fun hc51 => ?_)
    · exact absurd h1 hc51
    · refine wp_iconst (v := nI 1) (by decide) (ck_get kk_Mo_sumOf 25 rfl) ?_
      refine wp_goto (t := 59) (ck_get kk_Mo_sumOf 26 rfl) (by decide) ?_
      refine wp_istore (ck_get kk_Mo_sumOf 28 rfl) (by decide) rfl ?_
      refine wp_aload_n rfl (ck_get kk_Mo_sumOf 29 rfl) ?_
      refine wp_dup rfl (ck_get kk_Mo_sumOf 30 rfl) ?_
      refine wp_getIv (v := nI i) (ck_get kk_Mo_sumOf 31 rfl) fl_Mo_294 (by assumption) (emM_25) ?_
      refine wp_iconst (v := nI 1) (by decide) (ck_get kk_Mo_sumOf 32 rfl) ?_
      first | refine wp_iaddN (ck_get kk_Mo_sumOf 33 rfl) ?_ | refine wp_iadd (ck_get kk_Mo_sumOf 33 rfl) ?_
      refine wp_putI (ck_get kk_Mo_sumOf 34 rfl) fl_Mo_294 (by decide +kernel) (by assumption) (okI_int _) ?_
      rw [emM_go]
      refine wp_aload_n rfl (ck_get kk_Mo_sumOf 35 rfl) ?_
      refine wp_iload_n rfl (ck_get kk_Mo_sumOf 36 rfl) ?_
      refine wp_cV1l (ck_get kk_Mo_sumOf 37 rfl) ml_Mo_307 (by omega) (Nat.le_of_ble_eq_true rfl) (by assumption) (Cl.to (hT) ?_)
      rintro x M2 ⟨rfl, rfl⟩
      refine wp_lstore (ck_get kk_Mo_sumOf 38 rfl) (by decide) rfl ?_
      refine wp_aload_n rfl (ck_get kk_Mo_sumOf 39 rfl) ?_
      refine wp_iload rfl (ck_get kk_Mo_sumOf 40 rfl) ?_
      first | refine wp_if_eqN (t := 91) (ck_get kk_Mo_sumOf 41 rfl) (by decide) (by omega) (fun hc81 => ?_) (fun hc81 => ?_) | refine wp_if_eq (t := 91) (ck_get kk_Mo_sumOf 41 rfl) (by decide) (fun hc81 => ?_) (fun hc81 => ?_)
      · omega
      · refine wp_lload_n rfl (ck_get kk_Mo_sumOf 42 rfl) ?_
        refine wp_lload rfl (ck_get kk_Mo_sumOf 43 rfl) ?_
        refine wp_ladd (ck_get kk_Mo_sumOf 44 rfl) ?_
        refine wp_goto (t := 95) (ck_get kk_Mo_sumOf 45 rfl) (by decide) ?_
        refine wp_iload_n rfl (ck_get kk_Mo_sumOf 49 rfl) ?_
        refine wp_cV2l (ck_get kk_Mo_sumOf 50 rfl) ml_Mo_311 (by omega) (Nat.le_of_ble_eq_true rfl) (by assumption) (Cl.to (m_bounded (by exact hM0)) ?_)
        rintro x M2 ⟨rfl, rfl⟩
        refine wp_lstore_n (ck_get kk_Mo_sumOf 51 rfl) (by decide) rfl ?_
        refine wp_goto (t := 6) (ck_get kk_Mo_sumOf 52 rfl) (by decide) ?_
        exact hR _ _ _
  · exact absurd h1 hc19
theorem me_sumMinus {live b b1 : Bool} {i i1 : Nat} {v w z : Int64} {i2 : Nat} {b2 : Bool} {x4 x5 x6 : Option Value} (hM : MoAt (mT M) (mR M) o) (hge : mI M o 26 = nI ge) (hg2 : ge ≤ 2800) (hi : i < 100000) (h1 : tcd (mI M (o + 2)) ge i = nI 145) (hT : Cl g Y_Mo_termOf n [.ref o, .int (bI live)] (emM M o (i + 1) b) (fun x M2 => x = w ∧ M2 = emM M o i1 b1))
    (hR : ∀ y4 y5 y6, Wp g Y_Mo_sumOf (n + 1) 6 [some (.ref o), some (.int (bI live)), some (.long (bbv (v - w) live b1)), none, y4, y5, y6] [] (emM M o i1 (bbr (v - w) live b1)) (emQ M o z i2 b2)) :
    Wp g Y_Mo_sumOf (n + 1) 6 [some (.ref o), some (.int (bI live)), some (.long v), none, x4, x5, x6] [] (emM M o i b) (emQ M o z i2 b2) := by
  have hM0 := hM
  have h0 : ¬ tcd (mI M (o + 2)) ge i = nI 143 := by rw [h1]; decide
  have to0 := hM.1
  refine wp_aload_n rfl (ck_get kk_Mo_sumOf 4 rfl) ?_
  refine wp_aload_n rfl (ck_get kk_Mo_sumOf 5 rfl) ?_
  refine wp_getIv (v := nI i) (ck_get kk_Mo_sumOf 6 rfl) fl_Mo_294 (by assumption) (emM_25) ?_
  refine wp_cV1i (ck_get kk_Mo_sumOf 7 rfl) ml_Mo_297 (by omega) (Nat.le_of_ble_eq_true rfl) (by assumption) (Ci.to (m_codeAt (by exact hM0) hge hg2 hi) ?_)
  rintro _ M1 ⟨rfl, eqm1⟩
  obtain rfl := eqm1.symm
  refine wp_bipush (v := nI 43) (by decide) (ck_get kk_Mo_sumOf 8 rfl) ?_
  refine wp_cS1i (ck_get kk_Mo_sumOf 9 rfl) ml_Mo_253 (by omega) (Nat.le_of_ble_eq_true rfl) (Ci.to (m_signOf) ?_)
  rintro _ M1 ⟨rfl, eqm1⟩
  obtain rfl := eqm1.symm
  refine wp_icmp_eq (t := 38) (ck_get kk_Mo_sumOf 10 rfl) (by decide) (fun hc19 => ?_) (fun hc19 => ?_)
  · exact absurd hc19 h0
  · refine wp_aload_n rfl (ck_get kk_Mo_sumOf 11 rfl) ?_
    refine wp_aload_n rfl (ck_get kk_Mo_sumOf 12 rfl) ?_
    refine wp_getIv (v := nI i) (ck_get kk_Mo_sumOf 13 rfl) fl_Mo_294 (by assumption) (emM_25) ?_
    refine wp_cV1i (ck_get kk_Mo_sumOf 14 rfl) ml_Mo_297 (by omega) (Nat.le_of_ble_eq_true rfl) (by assumption) (Ci.to (m_codeAt (by exact hM0) hge hg2 hi) ?_)
    rintro _ M1 ⟨rfl, eqm1⟩
    obtain rfl := eqm1.symm
    refine wp_bipush (v := nI 45) (by decide) (ck_get kk_Mo_sumOf 15 rfl) ?_
    refine wp_cS1i (ck_get kk_Mo_sumOf 16 rfl) ml_Mo_253 (by omega) (Nat.le_of_ble_eq_true rfl) (Ci.to (m_signOf) ?_)
    rintro _ M1 ⟨rfl, eqm1⟩
    obtain rfl := eqm1.symm
    refine wp_icmp_ne (t := 103) (ck_get kk_Mo_sumOf 17 rfl) (by decide) (fun hc35 => ?_) (fun hc35 => ?_)
    · exact absurd h1 hc35
    · refine wp_aload_n rfl (ck_get kk_Mo_sumOf 18 rfl) ?_
      refine wp_aload_n rfl (ck_get kk_Mo_sumOf 19 rfl) ?_
      refine wp_getIv (v := nI i) (ck_get kk_Mo_sumOf 20 rfl) fl_Mo_294 (by assumption) (emM_25) ?_
      refine wp_cV1i (ck_get kk_Mo_sumOf 21 rfl) ml_Mo_297 (by omega) (Nat.le_of_ble_eq_true rfl) (by assumption) (Ci.to (m_codeAt (by exact hM0) hge hg2 hi) ?_)
      rintro _ M1 ⟨rfl, eqm1⟩
      obtain rfl := eqm1.symm
      refine wp_bipush (v := nI 43) (by decide) (ck_get kk_Mo_sumOf 22 rfl) ?_
      refine wp_cS1i (ck_get kk_Mo_sumOf 23 rfl) ml_Mo_253 (by omega) (Nat.le_of_ble_eq_true rfl) (Ci.to (m_signOf) ?_)
      rintro _ M1 ⟨rfl, eqm1⟩
      obtain rfl := eqm1.symm
      refine wp_icmp_ne (t := 58) (ck_get kk_Mo_sumOf 24 rfl) (by decide) (fun hc51 => ?_) (fun hc51 => ?_)
      · refine wp_iconst (v := nI 0) (by decide) (ck_get kk_Mo_sumOf 27 rfl) ?_
        refine wp_istore (ck_get kk_Mo_sumOf 28 rfl) (by decide) rfl ?_
        refine wp_aload_n rfl (ck_get kk_Mo_sumOf 29 rfl) ?_
        refine wp_dup rfl (ck_get kk_Mo_sumOf 30 rfl) ?_
        refine wp_getIv (v := nI i) (ck_get kk_Mo_sumOf 31 rfl) fl_Mo_294 (by assumption) (emM_25) ?_
        refine wp_iconst (v := nI 1) (by decide) (ck_get kk_Mo_sumOf 32 rfl) ?_
        first | refine wp_iaddN (ck_get kk_Mo_sumOf 33 rfl) ?_ | refine wp_iadd (ck_get kk_Mo_sumOf 33 rfl) ?_
        refine wp_putI (ck_get kk_Mo_sumOf 34 rfl) fl_Mo_294 (by decide +kernel) (by assumption) (okI_int _) ?_
        rw [emM_go]
        refine wp_aload_n rfl (ck_get kk_Mo_sumOf 35 rfl) ?_
        refine wp_iload_n rfl (ck_get kk_Mo_sumOf 36 rfl) ?_
        refine wp_cV1l (ck_get kk_Mo_sumOf 37 rfl) ml_Mo_307 (by omega) (Nat.le_of_ble_eq_true rfl) (by assumption) (Cl.to (hT) ?_)
        rintro x M2 ⟨rfl, rfl⟩
        refine wp_lstore (ck_get kk_Mo_sumOf 38 rfl) (by decide) rfl ?_
        refine wp_aload_n rfl (ck_get kk_Mo_sumOf 39 rfl) ?_
        refine wp_iload rfl (ck_get kk_Mo_sumOf 40 rfl) ?_
        first | refine wp_if_eqN (t := 91) (ck_get kk_Mo_sumOf 41 rfl) (by decide) (by omega) (fun hc81 => ?_) (fun hc81 => ?_) | refine wp_if_eq (t := 91) (ck_get kk_Mo_sumOf 41 rfl) (by decide) (fun hc81 => ?_) (fun hc81 => ?_)
        · refine wp_lload_n rfl (ck_get kk_Mo_sumOf 46 rfl) ?_
          refine wp_lload rfl (ck_get kk_Mo_sumOf 47 rfl) ?_
          refine wp_lsub (ck_get kk_Mo_sumOf 48 rfl) ?_
          refine wp_iload_n rfl (ck_get kk_Mo_sumOf 49 rfl) ?_
          refine wp_cV2l (ck_get kk_Mo_sumOf 50 rfl) ml_Mo_311 (by omega) (Nat.le_of_ble_eq_true rfl) (by assumption) (Cl.to (m_bounded (by exact hM0)) ?_)
          rintro x M2 ⟨rfl, rfl⟩
          refine wp_lstore_n (ck_get kk_Mo_sumOf 51 rfl) (by decide) rfl ?_
          refine wp_goto (t := 6) (ck_get kk_Mo_sumOf 52 rfl) (by decide) ?_
          exact hR _ _ _
        · omega
      · exact absurd hc51 h0
theorem me_term0 {live b b1 : Bool} {i i1 : Nat} {v1 v : Int64} {i2 : Nat} {b2 : Bool} (hM : MoAt (mT M) (mR M) o) (hT : Cl g Y_Mo_partOf n [.ref o, .int (bI live)] (emM M o i b) (fun x M2 => x = v1 ∧ M2 = emM M o i1 b1))
    (hR : Wp g Y_Mo_termOf (n + 1) 6 [some (.ref o), some (.int (bI live)), some (.long v1), none, none, none, none] [] (emM M o i1 b1) (emQ M o v i2 b2)) : Cl g Y_Mo_termOf (n + 1) [.ref o, .int (bI live)] (emM M o i b) (fun x M2 => x = v ∧ M2 = emM M o i2 b2) := by
  refine cw_entry 5 pf_Mo_termOf rfl ?_
  have to0 := hM.1
  refine wp_aload_n rfl (ck_get kk_Mo_termOf 0 rfl) ?_
  refine wp_iload_n rfl (ck_get kk_Mo_termOf 1 rfl) ?_
  refine wp_cV1l (ck_get kk_Mo_termOf 2 rfl) ml_Mo_315 (by omega) (Nat.le_of_ble_eq_true rfl) (by assumption) (Cl.to (hT) ?_)
  rintro x M2 ⟨rfl, rfl⟩
  refine wp_lstore_n (ck_get kk_Mo_termOf 3 rfl) (by decide) rfl ?_
  exact hR
theorem me_termEnd {live b : Bool} {i : Nat} {v : Int64} {x4 x5 x6 : Option Value} (hM : MoAt (mT M) (mR M) o) (hge : mI M o 26 = nI ge) (hg2 : ge ≤ 2800) (hi : i < 100000) (h1 : ¬ tcd (mI M (o + 2)) ge i = nI 142) (h2 : ¬ tcd (mI M (o + 2)) ge i = nI 147) (h3 : ¬ tcd (mI M (o + 2)) ge i = nI 137) :
    Wp g Y_Mo_termOf (n + 1) 6 [some (.ref o), some (.int (bI live)), some (.long v), none, x4, x5, x6] [] (emM M o i b) (emQ M o v i b) := by
  have hM0 := hM
  have to0 := hM.1
  refine wp_aload_n rfl (ck_get kk_Mo_termOf 4 rfl) ?_
  refine wp_aload_n rfl (ck_get kk_Mo_termOf 5 rfl) ?_
  refine wp_getIv (v := nI i) (ck_get kk_Mo_termOf 6 rfl) fl_Mo_294 (by assumption) (emM_25) ?_
  refine wp_cV1i (ck_get kk_Mo_termOf 7 rfl) ml_Mo_297 (by omega) (Nat.le_of_ble_eq_true rfl) (by assumption) (Ci.to (m_codeAt (by exact hM0) hge hg2 hi) ?_)
  rintro _ M1 ⟨rfl, eqm1⟩
  obtain rfl := eqm1.symm
  refine wp_bipush (v := nI 42) (by decide) (ck_get kk_Mo_termOf 8 rfl) ?_
  refine wp_cS1i (ck_get kk_Mo_termOf 9 rfl) ml_Mo_253 (by omega) (Nat.le_of_ble_eq_true rfl) (Ci.to (m_signOf) ?_)
  rintro _ M1 ⟨rfl, eqm1⟩
  obtain rfl := eqm1.symm
  refine wp_icmp_eq (t := 54) (ck_get kk_Mo_termOf 10 rfl) (by decide) (fun hc19 => ?_) (fun hc19 => ?_)
  · exact absurd hc19 h1
  · refine wp_aload_n rfl (ck_get kk_Mo_termOf 11 rfl) ?_
    refine wp_aload_n rfl (ck_get kk_Mo_termOf 12 rfl) ?_
    refine wp_getIv (v := nI i) (ck_get kk_Mo_termOf 13 rfl) fl_Mo_294 (by assumption) (emM_25) ?_
    refine wp_cV1i (ck_get kk_Mo_termOf 14 rfl) ml_Mo_297 (by omega) (Nat.le_of_ble_eq_true rfl) (by assumption) (Ci.to (m_codeAt (by exact hM0) hge hg2 hi) ?_)
    rintro _ M1 ⟨rfl, eqm1⟩
    obtain rfl := eqm1.symm
    refine wp_bipush (v := nI 47) (by decide) (ck_get kk_Mo_termOf 15 rfl) ?_
    refine wp_cS1i (ck_get kk_Mo_termOf 16 rfl) ml_Mo_253 (by omega) (Nat.le_of_ble_eq_true rfl) (Ci.to (m_signOf) ?_)
    rintro _ M1 ⟨rfl, eqm1⟩
    obtain rfl := eqm1.symm
    refine wp_icmp_eq (t := 54) (ck_get kk_Mo_termOf 17 rfl) (by decide) (fun hc35 => ?_) (fun hc35 => ?_)
    · exact absurd hc35 h2
    · refine wp_aload_n rfl (ck_get kk_Mo_termOf 18 rfl) ?_
      refine wp_aload_n rfl (ck_get kk_Mo_termOf 19 rfl) ?_
      refine wp_getIv (v := nI i) (ck_get kk_Mo_termOf 20 rfl) fl_Mo_294 (by assumption) (emM_25) ?_
      refine wp_cV1i (ck_get kk_Mo_termOf 21 rfl) ml_Mo_297 (by omega) (Nat.le_of_ble_eq_true rfl) (by assumption) (Ci.to (m_codeAt (by exact hM0) hge hg2 hi) ?_)
      rintro _ M1 ⟨rfl, eqm1⟩
      obtain rfl := eqm1.symm
      refine wp_bipush (v := nI 37) (by decide) (ck_get kk_Mo_termOf 22 rfl) ?_
      refine wp_cS1i (ck_get kk_Mo_termOf 23 rfl) ml_Mo_253 (by omega) (Nat.le_of_ble_eq_true rfl) (Ci.to (m_signOf) ?_)
      rintro _ M1 ⟨rfl, eqm1⟩
      obtain rfl := eqm1.symm
      refine wp_icmp_ne (t := 168) (ck_get kk_Mo_termOf 24 rfl) (by decide) (fun hc51 => ?_) (fun hc51 => ?_)
      · refine wp_lload_n rfl (ck_get kk_Mo_termOf 84 rfl) ?_
        refine wp_lreturn (ck_get kk_Mo_termOf 85 rfl) rfl ⟨_, rfl, ?_⟩
        exact ⟨rfl, rfl⟩
      · exact absurd hc51 h3
end MS
