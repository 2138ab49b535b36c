/-! ===== MissCurvesModel: words of orders, tests, step by step ===== -/
section MQ
variable {g : Gl} {M : Mem} {o ge n : Nat}
theorem m_ov12 {i k : Nat} {b : Bool} (hM : MoAt (mT M) (mR M) o) : Ci g Y_Mo_orderValue 1 [.ref o, .int (nI 12), .int (nI k)] (emM M o i b) (fun x M2 => x = mI M (o + 2) 368 ∧ M2 = emM M o i b) := by
  refine cw_entry 0 pf_Mo_orderValue rfl ?_
  have to0 := hM.1
  have rfkept := MoAt.r hM 1 rfl
  have tfkept := MoAt.t hM 1 rfl
  refine wp_iload_n rfl (ck_get kk_Mo_orderValue 0 rfl) ?_
  refine wp_tabIn (t := 32) (off := 31) (ck_get kk_Mo_orderValue 1 rfl) (by decide) (by decide) rfl (by decide) ?_
  refine wp_aload_n rfl (ck_get kk_Mo_orderValue 2 rfl) ?_
  refine wp_getR (ck_get kk_Mo_orderValue 3 rfl) fl_Mo_28 (by assumption) (by assumption) ?_
  refine wp_sipush (v := nI 368) (by decide) (ck_get kk_Mo_orderValue 4 rfl) ?_
  refine wp_ialdv (v := mI M (o + 2) 368) (ck_get kk_Mo_orderValue 5 rfl) (by assumption) (by first | assumption | exact ixk_nI (by omega) (by omega)) (by rw [emM_a (by omega)]) ?_
  refine wp_ireturn (ck_get kk_Mo_orderValue 6 rfl) rfl rfl ⟨_, rfl, ?_⟩
  exact ⟨rfl, rfl⟩
theorem m_ov13 {i k : Nat} {b : Bool} (hM : MoAt (mT M) (mR M) o) : Ci g Y_Mo_orderValue 1 [.ref o, .int (nI 13), .int (nI k)] (emM M o i b) (fun x M2 => x = mI M o 30 ∧ M2 = emM M o i b) := by
  refine cw_entry 0 pf_Mo_orderValue rfl ?_
  have to0 := hM.1
  refine wp_iload_n rfl (ck_get kk_Mo_orderValue 0 rfl) ?_
  refine wp_tabIn (t := 41) (off := 40) (ck_get kk_Mo_orderValue 1 rfl) (by decide) (by decide) rfl (by decide) ?_
  refine wp_aload_n rfl (ck_get kk_Mo_orderValue 7 rfl) ?_
  refine wp_getIv (v := mI M o 30) (ck_get kk_Mo_orderValue 8 rfl) fl_Mo_330 (by assumption) (by rw [emM_f (by omega) (by omega)]) ?_
  refine wp_ireturn (ck_get kk_Mo_orderValue 9 rfl) rfl rfl ⟨_, rfl, ?_⟩
  exact ⟨rfl, rfl⟩
theorem m_ov14 {i k : Nat} {b : Bool} (hM : MoAt (mT M) (mR M) o) : Ci g Y_Mo_orderValue 1 [.ref o, .int (nI 14), .int (nI k)] (emM M o i b) (fun x M2 => x = mI M o 31 ∧ M2 = emM M o i b) := by
  refine cw_entry 0 pf_Mo_orderValue rfl ?_
  have to0 := hM.1
  refine wp_iload_n rfl (ck_get kk_Mo_orderValue 0 rfl) ?_
  refine wp_tabIn (t := 46) (off := 45) (ck_get kk_Mo_orderValue 1 rfl) (by decide) (by decide) rfl (by decide) ?_
  refine wp_aload_n rfl (ck_get kk_Mo_orderValue 10 rfl) ?_
  refine wp_getIv (v := mI M o 31) (ck_get kk_Mo_orderValue 11 rfl) fl_Mo_333 (by assumption) (by rw [emM_f (by omega) (by omega)]) ?_
  refine wp_ireturn (ck_get kk_Mo_orderValue 12 rfl) rfl rfl ⟨_, rfl, ?_⟩
  exact ⟨rfl, rfl⟩
theorem m_ov15 {i k : Nat} {b : Bool} (hM : MoAt (mT M) (mR M) o) (hk : k < 4) : Ci g Y_Mo_orderValue 1 [.ref o, .int (nI 15), .int (nI k)] (emM M o i b) (fun x M2 => x = mI M (o + 2) (92 * k + 25) ∧ M2 = emM M o i b) := by
  refine cw_entry 0 pf_Mo_orderValue rfl ?_
  have to0 := hM.1
  have rfkept := MoAt.r hM 1 rfl
  have tfkept := MoAt.t hM 1 rfl
  refine wp_iload_n rfl (ck_get kk_Mo_orderValue 0 rfl) ?_
  refine wp_tabIn (t := 51) (off := 50) (ck_get kk_Mo_orderValue 1 rfl) (by decide) (by decide) rfl (by decide) ?_
  refine wp_aload_n rfl (ck_get kk_Mo_orderValue 13 rfl) ?_
  refine wp_getR (ck_get kk_Mo_orderValue 14 rfl) fl_Mo_28 (by assumption) (by assumption) ?_
  refine wp_iload_n rfl (ck_get kk_Mo_orderValue 15 rfl) ?_
  refine wp_bipush (v := nI 25) (by decide) (ck_get kk_Mo_orderValue 16 rfl) ?_
  refine wp_cS2i (ck_get kk_Mo_orderValue 17 rfl) ml_Mo_142 (by omega) (Nat.le_of_ble_eq_true rfl) (Ci.to (m_at) ?_)
  rintro _ M1 ⟨rfl, eqm1⟩
  obtain rfl := eqm1.symm
  refine wp_ialdv (v := mI M (o + 2) (92 * k + 25)) (ck_get kk_Mo_orderValue 18 rfl) (by assumption) (ixk_nI (k := 92 * k + 25) (by omega) (by omega)) (by rw [emM_a (by omega)]) ?_
  refine wp_ireturn (ck_get kk_Mo_orderValue 19 rfl) rfl rfl ⟨_, rfl, ?_⟩
  exact ⟨rfl, rfl⟩
theorem m_ov16 {i k : Nat} {b : Bool} (hM : MoAt (mT M) (mR M) o) (hk : k < 4) : Ci g Y_Mo_orderValue 1 [.ref o, .int (nI 16), .int (nI k)] (emM M o i b) (fun x M2 => x = mI M (o + 2) (92 * k) ∧ M2 = emM M o i b) := by
  refine cw_entry 0 pf_Mo_orderValue rfl ?_
  have to0 := hM.1
  have rfkept := MoAt.r hM 1 rfl
  have tfkept := MoAt.t hM 1 rfl
  refine wp_iload_n rfl (ck_get kk_Mo_orderValue 0 rfl) ?_
  refine wp_tabOut (t := 63) (ck_get kk_Mo_orderValue 1 rfl) (by decide) (by decide) ?_
  refine wp_aload_n rfl (ck_get kk_Mo_orderValue 20 rfl) ?_
  refine wp_getR (ck_get kk_Mo_orderValue 21 rfl) fl_Mo_28 (by assumption) (by assumption) ?_
  refine wp_iload_n rfl (ck_get kk_Mo_orderValue 22 rfl) ?_
  refine wp_iconst (v := nI 0) (by decide) (ck_get kk_Mo_orderValue 23 rfl) ?_
  refine wp_cS2i (ck_get kk_Mo_orderValue 24 rfl) ml_Mo_142 (by omega) (Nat.le_of_ble_eq_true rfl) (Ci.to (m_at) ?_)
  rintro _ M1 ⟨rfl, eqm1⟩
  obtain rfl := eqm1.symm
  refine wp_ialdv (v := mI M (o + 2) (92 * k)) (ck_get kk_Mo_orderValue 25 rfl) (by assumption) (ixk_nI (k := 92 * k) (by omega) (by omega)) (by rw [emM_a (by omega)]) ?_
  refine wp_ireturn (ck_get kk_Mo_orderValue 26 rfl) rfl rfl ⟨_, rfl, ?_⟩
  exact ⟨rfl, rfl⟩
theorem me_partOrd {live b : Bool} {i c : Nat} {xv : Int32} (hM : MoAt (mT M) (mR M) o) (hge : mI M o 26 = nI ge) (hg2 : ge ≤ 2800) (hi : i < 2800) (hio : mI M o 28 = nI 1) (hc : 12 ≤ c ∧ c < 15) (h1 : tcd (mI M (o + 2)) ge i = nI c) (hV : Ci g Y_Mo_orderValue 1 [.ref o, .int (nI c), .int (nI 0)] (emM M o (i + 1) b) (fun x M2 => x = xv ∧ M2 = emM M o (i + 1) b)) :
    Cl g Y_Mo_partOf (n + 2) [.ref o, .int (bI live)] (emM M o i b) (fun x M2 => x = lvd live b xv.toInt64 ∧ M2 = emM M o (i + 1) b) := by
  refine cw_entry 2 pf_Mo_partOf rfl ?_
  have hM0 := hM
  have to0 := hM.1
  have rfkept := MoAt.r hM 1 rfl
  have tfkept := MoAt.t hM 1 rfl
  have hne : ∀ d : Nat, d < 12 ∨ 15 ≤ d → d < 1000 → ¬ tcd (mI M (o + 2)) ge i = nI d := by
    intro d hd hd2 q
    rw [h1] at q
    have := (nI_eq (by omega) (by omega)).mp q
    omega
  refine wp_aload_n rfl (ck_get kk_Mo_partOf 0 rfl) ?_
  refine wp_bipush (v := nI 91) (by decide) (ck_get kk_Mo_partOf 1 rfl) ?_
  refine wp_cS1i (ck_get kk_Mo_partOf 2 rfl) ml_Mo_253 (by omega) (Nat.le_of_ble_eq_true rfl) (Ci.to (m_signOf) ?_)
  rintro _ M1 ⟨rfl, eqm1⟩
  obtain rfl := eqm1.symm
  refine wp_cV1i (ck_get kk_Mo_partOf 3 rfl) ml_Mo_318 (by omega) (Nat.le_of_ble_eq_true rfl) (by assumption) (Ci.to (m_passes (by exact hM0) hge hg2 (by omega)) ?_)
  rintro x₁ M₁ ⟨rfl, rfl⟩
  rw [decide_eq_false (hne _ (by omega) (by omega)), if_neg (hne _ (by omega) (by omega))]
  first | refine wp_if_eqN (t := 30) (ck_get kk_Mo_partOf 4 rfl) (by decide) (by omega) (fun hc9 => ?_) (fun hc9 => ?_) | refine wp_if_eq (t := 30) (ck_get kk_Mo_partOf 4 rfl) (by decide) (fun hc9 => ?_) (fun hc9 => ?_)
  · refine wp_aload_n rfl (ck_get kk_Mo_partOf 17 rfl) ?_
    refine wp_aload_n rfl (ck_get kk_Mo_partOf 18 rfl) ?_
    refine wp_getIv (v := nI i) (ck_get kk_Mo_partOf 19 rfl) fl_Mo_294 (by assumption) (emM_25) ?_
    refine wp_cV1i (ck_get kk_Mo_partOf 20 rfl) ml_Mo_297 (by omega) (Nat.le_of_ble_eq_true rfl) (by assumption) (Ci.to (m_codeAt (by exact hM0) hge hg2 (by omega)) ?_)
    rintro _ M1 ⟨rfl, eqm1⟩
    obtain rfl := eqm1.symm
    refine wp_istore_n (ck_get kk_Mo_partOf 21 rfl) (by decide) rfl ?_
    refine wp_iconst (v := nI 0) (by decide) (ck_get kk_Mo_partOf 22 rfl) ?_
    refine wp_istore_n (ck_get kk_Mo_partOf 23 rfl) (by decide) rfl ?_
    refine wp_aload_n rfl (ck_get kk_Mo_partOf 24 rfl) ?_
    refine wp_dup rfl (ck_get kk_Mo_partOf 25 rfl) ?_
    refine wp_getIv (v := nI i) (ck_get kk_Mo_partOf 26 rfl) fl_Mo_294 (by assumption) (emM_25) ?_
    refine wp_iconst (v := nI 1) (by decide) (ck_get kk_Mo_partOf 27 rfl) ?_
    first | refine wp_iaddN (ck_get kk_Mo_partOf 28 rfl) ?_ | refine wp_iadd (ck_get kk_Mo_partOf 28 rfl) ?_
    refine wp_putI (ck_get kk_Mo_partOf 29 rfl) fl_Mo_294 (by decide +kernel) (by assumption) (okI_int _) ?_
    rw [emM_go]
    refine wp_aload_n rfl (ck_get kk_Mo_partOf 30 rfl) ?_
    refine wp_getIv (v := nI 1) (ck_get kk_Mo_partOf 31 rfl) fl_Mo_324 (by assumption) (by rw [emM_f (by omega) (by omega)]; exact hio) ?_
    first | refine wp_if_eqN (t := 94) (ck_get kk_Mo_partOf 32 rfl) (by decide) (by omega) (fun hc55 => ?_) (fun hc55 => ?_) | refine wp_if_eq (t := 94) (ck_get kk_Mo_partOf 32 rfl) (by decide) (fun hc55 => ?_) (fun hc55 => ?_)
    · exact absurd hc55 (by decide)
    · refine wp_iload_n rfl (ck_get kk_Mo_partOf 33 rfl) ?_
      refine wp_bipush (v := nI 15) (by decide) (ck_get kk_Mo_partOf 34 rfl) ?_
      refine wp_icmp_eq (t := 70) (ck_get kk_Mo_partOf 35 rfl) (by decide) (fun hc61 => ?_) (fun hc61 => ?_)
      · exact absurd hc61 (hne _ (by omega) (by omega))
      · refine wp_iload_n rfl (ck_get kk_Mo_partOf 36 rfl) ?_
        refine wp_bipush (v := nI 16) (by decide) (ck_get kk_Mo_partOf 37 rfl) ?_
        refine wp_icmp_ne (t := 94) (ck_get kk_Mo_partOf 38 rfl) (by decide) (fun hc67 => ?_) (fun hc67 => ?_)
        · refine wp_iload_n rfl (ck_get kk_Mo_partOf 53 rfl) ?_
          first | refine wp_if_eqN (t := 105) (ck_get kk_Mo_partOf 54 rfl) (by decide) (by omega) (fun hc95 => ?_) (fun hc95 => ?_) | refine wp_if_eq (t := 105) (ck_get kk_Mo_partOf 54 rfl) (by decide) (fun hc95 => ?_) (fun hc95 => ?_)
          · refine wp_lconst (v := 0) (by decide) (ck_get kk_Mo_partOf 58 rfl) ?_
            refine wp_lreturn (ck_get kk_Mo_partOf 59 rfl) rfl ⟨_, rfl, ?_⟩
            exact ⟨(lvd_no hc95).symm, rfl⟩
          · refine wp_aload_n rfl (ck_get kk_Mo_partOf 55 rfl) ?_
            refine wp_getIv (v := bI b) (ck_get kk_Mo_partOf 56 rfl) fl_Mo_304 (by assumption) (emM_27) ?_
            first | refine wp_if_eqN (t := 107) (ck_get kk_Mo_partOf 57 rfl) (by decide) (by omega) (fun hc102 => ?_) (fun hc102 => ?_) | refine wp_if_eq (t := 107) (ck_get kk_Mo_partOf 57 rfl) (by decide) (fun hc102 => ?_) (fun hc102 => ?_)
            · refine wp_iload_n rfl (ck_get kk_Mo_partOf 60 rfl) ?_
              refine wp_bipush (v := nI 50) (by decide) (ck_get kk_Mo_partOf 61 rfl) ?_
              refine wp_icmp_ne (t := 130) (ck_get kk_Mo_partOf 62 rfl) (by decide) (fun hc110 => ?_) (fun hc110 => ?_)
              · refine wp_aload_n rfl (ck_get kk_Mo_partOf 74 rfl) ?_
                refine wp_getIv (v := nI 1) (ck_get kk_Mo_partOf 75 rfl) fl_Mo_324 (by assumption) (by rw [emM_f (by omega) (by omega)]; exact hio) ?_
                first | refine wp_if_eqN (t := 147) (ck_get kk_Mo_partOf 76 rfl) (by decide) (by omega) (fun hc134 => ?_) (fun hc134 => ?_) | refine wp_if_eq (t := 147) (ck_get kk_Mo_partOf 76 rfl) (by decide) (fun hc134 => ?_) (fun hc134 => ?_)
                · exact absurd hc134 (by decide)
                · refine wp_aload_n rfl (ck_get kk_Mo_partOf 77 rfl) ?_
                  refine wp_iload_n rfl (ck_get kk_Mo_partOf 78 rfl) ?_
                  refine wp_iload_n rfl (ck_get kk_Mo_partOf 79 rfl) ?_
                  rw [h1]
                  refine wp_cV2i (ck_get kk_Mo_partOf 80 rfl) ml_Mo_327 (by omega) (Nat.le_of_ble_eq_true rfl) (by assumption) (Ci.to (hV) ?_)
                  rintro x₃ M₃ ⟨rfl, rfl⟩
                  refine wp_i2l (ck_get kk_Mo_partOf 81 rfl) ?_
                  refine wp_goto (t := 157) (ck_get kk_Mo_partOf 82 rfl) (by decide) ?_
                  refine wp_lreturn (ck_get kk_Mo_partOf 90 rfl) rfl ⟨_, rfl, ?_⟩
                  exact ⟨(lvd_yes hc95 hc102).symm, rfl⟩
              · exact absurd hc110 (hne _ (by omega) (by omega))
            · refine wp_lconst (v := 0) (by decide) (ck_get kk_Mo_partOf 58 rfl) ?_
              refine wp_lreturn (ck_get kk_Mo_partOf 59 rfl) rfl ⟨_, rfl, ?_⟩
              exact ⟨(lvd_br hc102).symm, rfl⟩
        · exact absurd hc67 (hne _ (by omega) (by omega))
  · exact absurd rfl hc9
theorem me_partOrdK {live b : Bool} {i c k : Nat} {xv : Int32} (hM : MoAt (mT M) (mR M) o) (hge : mI M o 26 = nI ge) (hg2 : ge ≤ 2800) (hi : i < 2799) (hio : mI M o 28 = nI 1) (hc : c = 15 ∨ c = 16) (h1 : tcd (mI M (o + 2)) ge i = nI c) (hk : mI M (o + 2) (3195 + (i + 1)) = nI k) (hV : Ci g Y_Mo_orderValue 1 [.ref o, .int (nI c), .int (nI k)] (emM M o (i + 2) b) (fun x M2 => x = xv ∧ M2 = emM M o (i + 2) b)) :
    Cl g Y_Mo_partOf (n + 2) [.ref o, .int (bI live)] (emM M o i b) (fun x M2 => x = lvd live b xv.toInt64 ∧ M2 = emM M o (i + 2) b) := by
  refine cw_entry 2 pf_Mo_partOf rfl ?_
  have hM0 := hM
  have to0 := hM.1
  have rfkept := MoAt.r hM 1 rfl
  have tfkept := MoAt.t hM 1 rfl
  have hne : ∀ d : Nat, d < 15 ∨ 17 ≤ d → d < 1000 → ¬ tcd (mI M (o + 2)) ge i = nI d := by
    intro d hd hd2 q
    rw [h1] at q
    have := (nI_eq (by omega) (by omega)).mp q
    omega
  have fin : Wp g Y_Mo_partOf (n + 2) 70 [some (.ref o), some (.int (bI live)), some (.int (tcd (mI M (o + 2)) ge i)), some (.int (nI 0))] [] (emM M o (i + 1) b) (fun r M2 => ∃ x, r = some (.long x) ∧ x = lvd live b xv.toInt64 ∧ M2 = emM M o (i + 2) b) := by
    refine wp_aload_n rfl (ck_get kk_Mo_partOf 39 rfl) ?_
    refine wp_getR (ck_get kk_Mo_partOf 40 rfl) fl_Mo_28 (by assumption) (by assumption) ?_
    refine wp_sipush (v := nI 3195) (by decide) (ck_get kk_Mo_partOf 41 rfl) ?_
    refine wp_aload_n rfl (ck_get kk_Mo_partOf 42 rfl) ?_
    refine wp_getIv (v := nI (i + 1)) (ck_get kk_Mo_partOf 43 rfl) fl_Mo_294 (by assumption) (emM_25) ?_
    first | refine wp_iaddN (ck_get kk_Mo_partOf 44 rfl) ?_ | refine wp_iadd (ck_get kk_Mo_partOf 44 rfl) ?_
    refine wp_ialdv (v := nI k) (ck_get kk_Mo_partOf 45 rfl) (by assumption) (ixk_nI (k := 3195 + (i + 1)) (by omega) (by omega)) (by rw [emM_a (by omega)]; exact hk) ?_
    refine wp_istore_n (ck_get kk_Mo_partOf 46 rfl) (by decide) rfl ?_
    refine wp_aload_n rfl (ck_get kk_Mo_partOf 47 rfl) ?_
    refine wp_dup rfl (ck_get kk_Mo_partOf 48 rfl) ?_
    refine wp_getIv (v := nI (i + 1)) (ck_get kk_Mo_partOf 49 rfl) fl_Mo_294 (by assumption) (emM_25) ?_
    refine wp_iconst (v := nI 1) (by decide) (ck_get kk_Mo_partOf 50 rfl) ?_
    first | refine wp_iaddN (ck_get kk_Mo_partOf 51 rfl) ?_ | refine wp_iadd (ck_get kk_Mo_partOf 51 rfl) ?_
    refine wp_putI (ck_get kk_Mo_partOf 52 rfl) fl_Mo_294 (by decide +kernel) (by assumption) (okI_int _) ?_
    rw [emM_go]
    refine wp_iload_n rfl (ck_get kk_Mo_partOf 53 rfl) ?_
    first | refine wp_if_eqN (t := 105) (ck_get kk_Mo_partOf 54 rfl) (by decide) (by omega) (fun hc95 => ?_) (fun hc95 => ?_) | refine wp_if_eq (t := 105) (ck_get kk_Mo_partOf 54 rfl) (by decide) (fun hc95 => ?_) (fun hc95 => ?_)
    · refine wp_lconst (v := 0) (by decide) (ck_get kk_Mo_partOf 58 rfl) ?_
      refine wp_lreturn (ck_get kk_Mo_partOf 59 rfl) rfl ⟨_, rfl, ?_⟩
      exact ⟨(lvd_no hc95).symm, rfl⟩
    · refine wp_aload_n rfl (ck_get kk_Mo_partOf 55 rfl) ?_
      refine wp_getIv (v := bI b) (ck_get kk_Mo_partOf 56 rfl) fl_Mo_304 (by assumption) (emM_27) ?_
      first | refine wp_if_eqN (t := 107) (ck_get kk_Mo_partOf 57 rfl) (by decide) (by omega) (fun hc102 => ?_) (fun hc102 => ?_) | refine wp_if_eq (t := 107) (ck_get kk_Mo_partOf 57 rfl) (by decide) (fun hc102 => ?_) (fun hc102 => ?_)
      · refine wp_iload_n rfl (ck_get kk_Mo_partOf 60 rfl) ?_
        refine wp_bipush (v := nI 50) (by decide) (ck_get kk_Mo_partOf 61 rfl) ?_
        refine wp_icmp_ne (t := 130) (ck_get kk_Mo_partOf 62 rfl) (by decide) (fun hc110 => ?_) (fun hc110 => ?_)
        · refine wp_aload_n rfl (ck_get kk_Mo_partOf 74 rfl) ?_
          refine wp_getIv (v := nI 1) (ck_get kk_Mo_partOf 75 rfl) fl_Mo_324 (by assumption) (by rw [emM_f (by omega) (by omega)]; exact hio) ?_
          first | refine wp_if_eqN (t := 147) (ck_get kk_Mo_partOf 76 rfl) (by decide) (by omega) (fun hc134 => ?_) (fun hc134 => ?_) | refine wp_if_eq (t := 147) (ck_get kk_Mo_partOf 76 rfl) (by decide) (fun hc134 => ?_) (fun hc134 => ?_)
          · exact absurd hc134 (by decide)
          · refine wp_aload_n rfl (ck_get kk_Mo_partOf 77 rfl) ?_
            refine wp_iload_n rfl (ck_get kk_Mo_partOf 78 rfl) ?_
            refine wp_iload_n rfl (ck_get kk_Mo_partOf 79 rfl) ?_
            rw [h1]
            refine wp_cV2i (ck_get kk_Mo_partOf 80 rfl) ml_Mo_327 (by omega) (Nat.le_of_ble_eq_true rfl) (by assumption) (Ci.to (hV) ?_)
            rintro x₃ M₃ ⟨rfl, rfl⟩
            refine wp_i2l (ck_get kk_Mo_partOf 81 rfl) ?_
            refine wp_goto (t := 157) (ck_get kk_Mo_partOf 82 rfl) (by decide) ?_
            refine wp_lreturn (ck_get kk_Mo_partOf 90 rfl) rfl ⟨_, rfl, ?_⟩
            exact ⟨(lvd_yes hc95 hc102).symm, rfl⟩
        · exact absurd hc110 (hne _ (by omega) (by omega))
      · refine wp_lconst (v := 0) (by decide) (ck_get kk_Mo_partOf 58 rfl) ?_
        refine wp_lreturn (ck_get kk_Mo_partOf 59 rfl) rfl ⟨_, rfl, ?_⟩
        exact ⟨(lvd_br hc102).symm, rfl⟩
  refine wp_aload_n rfl (ck_get kk_Mo_partOf 0 rfl) ?_
  refine wp_bipush (v := nI 91) (by decide) (ck_get kk_Mo_partOf 1 rfl) ?_
  refine wp_cS1i (ck_get kk_Mo_partOf 2 rfl) ml_Mo_253 (by omega) (Nat.le_of_ble_eq_true rfl) (Ci.to (m_signOf) ?_)
  rintro _ M1 ⟨rfl, eqm1⟩
  obtain rfl := eqm1.symm
  refine wp_cV1i (ck_get kk_Mo_partOf 3 rfl) ml_Mo_318 (by omega) (Nat.le_of_ble_eq_true rfl) (by assumption) (Ci.to (m_passes (by exact hM0) hge hg2 (by omega)) ?_)
  rintro x₁ M₁ ⟨rfl, rfl⟩
  rw [decide_eq_false (hne _ (by omega) (by omega)), if_neg (hne _ (by omega) (by omega))]
  first | refine wp_if_eqN (t := 30) (ck_get kk_Mo_partOf 4 rfl) (by decide) (by omega) (fun hc9 => ?_) (fun hc9 => ?_) | refine wp_if_eq (t := 30) (ck_get kk_Mo_partOf 4 rfl) (by decide) (fun hc9 => ?_) (fun hc9 => ?_)
  · refine wp_aload_n rfl (ck_get kk_Mo_partOf 17 rfl) ?_
    refine wp_aload_n rfl (ck_get kk_Mo_partOf 18 rfl) ?_
    refine wp_getIv (v := nI i) (ck_get kk_Mo_partOf 19 rfl) fl_Mo_294 (by assumption) (emM_25) ?_
    refine wp_cV1i (ck_get kk_Mo_partOf 20 rfl) ml_Mo_297 (by omega) (Nat.le_of_ble_eq_true rfl) (by assumption) (Ci.to (m_codeAt (by exact hM0) hge hg2 (by omega)) ?_)
    rintro _ M1 ⟨rfl, eqm1⟩
    obtain rfl := eqm1.symm
    refine wp_istore_n (ck_get kk_Mo_partOf 21 rfl) (by decide) rfl ?_
    refine wp_iconst (v := nI 0) (by decide) (ck_get kk_Mo_partOf 22 rfl) ?_
    refine wp_istore_n (ck_get kk_Mo_partOf 23 rfl) (by decide) rfl ?_
    refine wp_aload_n rfl (ck_get kk_Mo_partOf 24 rfl) ?_
    refine wp_dup rfl (ck_get kk_Mo_partOf 25 rfl) ?_
    refine wp_getIv (v := nI i) (ck_get kk_Mo_partOf 26 rfl) fl_Mo_294 (by assumption) (emM_25) ?_
    refine wp_iconst (v := nI 1) (by decide) (ck_get kk_Mo_partOf 27 rfl) ?_
    first | refine wp_iaddN (ck_get kk_Mo_partOf 28 rfl) ?_ | refine wp_iadd (ck_get kk_Mo_partOf 28 rfl) ?_
    refine wp_putI (ck_get kk_Mo_partOf 29 rfl) fl_Mo_294 (by decide +kernel) (by assumption) (okI_int _) ?_
    rw [emM_go]
    refine wp_aload_n rfl (ck_get kk_Mo_partOf 30 rfl) ?_
    refine wp_getIv (v := nI 1) (ck_get kk_Mo_partOf 31 rfl) fl_Mo_324 (by assumption) (by rw [emM_f (by omega) (by omega)]; exact hio) ?_
    first | refine wp_if_eqN (t := 94) (ck_get kk_Mo_partOf 32 rfl) (by decide) (by omega) (fun hc55 => ?_) (fun hc55 => ?_) | refine wp_if_eq (t := 94) (ck_get kk_Mo_partOf 32 rfl) (by decide) (fun hc55 => ?_) (fun hc55 => ?_)
    · exact absurd hc55 (by decide)
    · refine wp_iload_n rfl (ck_get kk_Mo_partOf 33 rfl) ?_
      refine wp_bipush (v := nI 15) (by decide) (ck_get kk_Mo_partOf 34 rfl) ?_
      refine wp_icmp_eq (t := 70) (ck_get kk_Mo_partOf 35 rfl) (by decide) (fun hc61 => ?_) (fun hc61 => ?_)
      · exact fin
      · refine wp_iload_n rfl (ck_get kk_Mo_partOf 36 rfl) ?_
        refine wp_bipush (v := nI 16) (by decide) (ck_get kk_Mo_partOf 37 rfl) ?_
        refine wp_icmp_ne (t := 94) (ck_get kk_Mo_partOf 38 rfl) (by decide) (fun hc67 => ?_) (fun hc67 => ?_)
        · rcases hc with hc | hc
          · exact absurd (by rw [h1, hc]) hc61
          · exact absurd (by rw [h1, hc]) hc67
        · exact fin
  · exact absurd rfl hc9
abbrev emB (M : Mem) (o : Nat) (v : Bool) (i : Nat) (b : Bool) : Option Value → Mem → Prop := fun r M2 => ∃ x, r = some (.int x) ∧ x = bI v ∧ M2 = emM M o i b
theorem me_test0 {live b b1 v1 v b2 : Bool} {i i1 i2 : Nat} (hM : MoAt (mT M) (mR M) o) (hT : Ci g Y_Mo_bothOf n [.ref o, .int (bI live)] (emM M o i b) (fun x M2 => x = bI v1 ∧ M2 = emM M o i1 b1))
    (hR : Wp g Y_Mo_testOf (n + 1) 6 [some (.ref o), some (.int (bI live)), some (.int (bI v1)), none] [] (emM M o i1 b1) (emB M o v i2 b2)) : Ci g Y_Mo_testOf (n + 1) [.ref o, .int (bI live)] (emM M o i b) (fun x M2 => x = bI v ∧ M2 = emM M o i2 b2) := by
  refine cw_entry 2 pf_Mo_testOf rfl ?_
  have to0 := hM.1
  refine wp_aload_n rfl (ck_get kk_Mo_testOf 0 rfl) ?_
  refine wp_iload_n rfl (ck_get kk_Mo_testOf 1 rfl) ?_
  refine wp_cV1i (ck_get kk_Mo_testOf 2 rfl) ml_Mo_336 (by omega) (Nat.le_of_ble_eq_true rfl) (by assumption) (Ci.to (hT) ?_)
  rintro x₁ M₁ ⟨rfl, rfl⟩
  refine wp_istore_n (ck_get kk_Mo_testOf 3 rfl) (by decide) rfl ?_
  exact hR
theorem me_both0 {live b b1 v1 v b2 : Bool} {i i1 i2 : Nat} (hM : MoAt (mT M) (mR M) o) (hT : Ci g Y_Mo_plainOf n [.ref o, .int (bI live)] (emM M o i b) (fun x M2 => x = bI v1 ∧ M2 = emM M o i1 b1))
    (hR : Wp g Y_Mo_bothOf (n + 1) 6 [some (.ref o), some (.int (bI live)), some (.int (bI v1)), none] [] (emM M o i1 b1) (emB M o v i2 b2)) : Ci g Y_Mo_bothOf (n + 1) [.ref o, .int (bI live)] (emM M o i b) (fun x M2 => x = bI v ∧ M2 = emM M o i2 b2) := by
  refine cw_entry 2 pf_Mo_bothOf rfl ?_
  have to0 := hM.1
  refine wp_aload_n rfl (ck_get kk_Mo_bothOf 0 rfl) ?_
  refine wp_iload_n rfl (ck_get kk_Mo_bothOf 1 rfl) ?_
  refine wp_cV1i (ck_get kk_Mo_bothOf 2 rfl) ml_Mo_339 (by omega) (Nat.le_of_ble_eq_true rfl) (by assumption) (Ci.to (hT) ?_)
  rintro x₁ M₁ ⟨rfl, rfl⟩
  refine wp_istore_n (ck_get kk_Mo_bothOf 3 rfl) (by decide) rfl ?_
  exact hR
theorem me_testEnd {live b v : Bool} {i : Nat} {x3 : Option Value} (hM : MoAt (mT M) (mR M) o) (hge : mI M o 26 = nI ge) (hg2 : ge ≤ 2800) (hi : i < 100000) (h1 : ¬ tcd (mI M (o + 2)) ge i = nI 4) :
    Wp g Y_Mo_testOf (n + 2) 6 [some (.ref o), some (.int (bI live)), some (.int (bI v)), x3] [] (emM M o i b) (emB M o v i b) := by
  have hM0 := hM
  have to0 := hM.1
  refine wp_aload_n rfl (ck_get kk_Mo_testOf 4 rfl) ?_
  refine wp_iconst (v := nI 4) (by decide) (ck_get kk_Mo_testOf 5 rfl) ?_
  refine wp_cV1i (ck_get kk_Mo_testOf 6 rfl) ml_Mo_318 (by omega) (Nat.le_of_ble_eq_true rfl) (by assumption) (Ci.to (m_passes (by exact hM0) hge hg2 hi) ?_)
  rintro x₁ M₁ ⟨rfl, rfl⟩
  rw [decide_eq_false h1, if_neg h1]
  first | refine wp_if_eqN (t := 49) (ck_get kk_Mo_testOf 7 rfl) (by decide) (by omega) (fun hc11 => ?_) (fun hc11 => ?_) | refine wp_if_eq (t := 49) (ck_get kk_Mo_testOf 7 rfl) (by decide) (fun hc11 => ?_) (fun hc11 => ?_)
  · refine wp_iload_n rfl (ck_get kk_Mo_testOf 27 rfl) ?_
    refine wp_ireturn (ck_get kk_Mo_testOf 28 rfl) rfl (bI_ok _) ⟨_, rfl, ?_⟩
    exact ⟨rfl, rfl⟩
  · exact absurd rfl hc11
theorem me_bothEnd {live b v : Bool} {i : Nat} {x3 : Option Value} (hM : MoAt (mT M) (mR M) o) (hge : mI M o 26 = nI ge) (hg2 : ge ≤ 2800) (hi : i < 100000) (h1 : ¬ tcd (mI M (o + 2)) ge i = nI 5) :
    Wp g Y_Mo_bothOf (n + 2) 6 [some (.ref o), some (.int (bI live)), some (.int (bI v)), x3] [] (emM M o i b) (emB M o v i b) := by
  have hM0 := hM
  have to0 := hM.1
  refine wp_aload_n rfl (ck_get kk_Mo_bothOf 4 rfl) ?_
  refine wp_iconst (v := nI 5) (by decide) (ck_get kk_Mo_bothOf 5 rfl) ?_
  refine wp_cV1i (ck_get kk_Mo_bothOf 6 rfl) ml_Mo_318 (by omega) (Nat.le_of_ble_eq_true rfl) (by assumption) (Ci.to (m_passes (by exact hM0) hge hg2 hi) ?_)
  rintro x₁ M₁ ⟨rfl, rfl⟩
  rw [decide_eq_false h1, if_neg h1]
  first | refine wp_if_eqN (t := 49) (ck_get kk_Mo_bothOf 7 rfl) (by decide) (by omega) (fun hc11 => ?_) (fun hc11 => ?_) | refine wp_if_eq (t := 49) (ck_get kk_Mo_bothOf 7 rfl) (by decide) (fun hc11 => ?_) (fun hc11 => ?_)
  · refine wp_iload_n rfl (ck_get kk_Mo_bothOf 27 rfl) ?_
    refine wp_ireturn (ck_get kk_Mo_bothOf 28 rfl) rfl (bI_ok _) ⟨_, rfl, ?_⟩
    exact ⟨rfl, rfl⟩
  · exact absurd rfl hc11
theorem me_testOr {live b b1 v w z b2 : Bool} {i i1 i2 : Nat} {x3 : Option Value} (hM : MoAt (mT M) (mR M) o) (hge : mI M o 26 = nI ge) (hg2 : ge ≤ 2800) (hi : i < 100000) (h1 : tcd (mI M (o + 2)) ge i = nI 4) (hn : 1 ≤ n) (hT : Ci g Y_Mo_bothOf n [.ref o, .int (bI (live && !v))] (emM M o (i + 1) b) (fun x M2 => x = bI w ∧ M2 = emM M o i1 b1))
    (hR : ∀ y3, Wp g Y_Mo_testOf (n + 1) 6 [some (.ref o), some (.int (bI live)), some (.int (bI (v || w))), y3] [] (emM M o i1 b1) (emB M o z i2 b2)) :
    Wp g Y_Mo_testOf (n + 1) 6 [some (.ref o), some (.int (bI live)), some (.int (bI v)), x3] [] (emM M o i b) (emB M o z i2 b2) := by
  have hM0 := hM
  have to0 := hM.1
  cases live <;> cases v <;> cases w
  · skip
    refine wp_aload_n rfl (ck_get kk_Mo_testOf 4 rfl) ?_
    refine wp_iconst (v := nI 4) (by decide) (ck_get kk_Mo_testOf 5 rfl) ?_
    refine wp_cV1i (ck_get kk_Mo_testOf 6 rfl) ml_Mo_318 (by omega) (Nat.le_of_ble_eq_true rfl) (by assumption) (Ci.to (m_passes (by exact hM0) hge hg2 hi) ?_)
    rintro x₁ M₁ ⟨rfl, rfl⟩
    rw [decide_eq_true h1, if_pos h1]
    first | refine wp_if_eqN (t := 49) (ck_get kk_Mo_testOf 7 rfl) (by decide) (by omega) (fun hc11 => ?_) (fun hc11 => ?_) | refine wp_if_eq (t := 49) (ck_get kk_Mo_testOf 7 rfl) (by decide) (fun hc11 => ?_) (fun hc11 => ?_)
    · exact absurd hc11 (by decide)
    · refine wp_aload_n rfl (ck_get kk_Mo_testOf 8 rfl) ?_
      refine wp_iload_n rfl (ck_get kk_Mo_testOf 9 rfl) ?_
      first | refine wp_if_eqN (t := 27) (ck_get kk_Mo_testOf 10 rfl) (by decide) (by omega) (fun hc16 => ?_) (fun hc16 => ?_) | refine wp_if_eq (t := 27) (ck_get kk_Mo_testOf 10 rfl) (by decide) (fun hc16 => ?_) (fun hc16 => ?_)
      · refine wp_iconst (v := nI 0) (by decide) (ck_get kk_Mo_testOf 15 rfl) ?_
        refine wp_cV1i (ck_get kk_Mo_testOf 16 rfl) ml_Mo_336 (by omega) (Nat.le_of_ble_eq_true rfl) (by assumption) (Ci.to (hT) ?_)
        rintro x₂ M₂ ⟨rfl, rfl⟩
        refine wp_istore_n (ck_get kk_Mo_testOf 17 rfl) (by decide) rfl ?_
        refine wp_iload_n rfl (ck_get kk_Mo_testOf 18 rfl) ?_
        first | refine wp_if_neN (t := 40) (ck_get kk_Mo_testOf 19 rfl) (by decide) (by omega) (fun hc33 => ?_) (fun hc33 => ?_) | refine wp_if_ne (t := 40) (ck_get kk_Mo_testOf 19 rfl) (by decide) (fun hc33 => ?_) (fun hc33 => ?_)
        · exact absurd rfl hc33
        · refine wp_iload_n rfl (ck_get kk_Mo_testOf 20 rfl) ?_
          first | refine wp_if_eqN (t := 44) (ck_get kk_Mo_testOf 21 rfl) (by decide) (by omega) (fun hc37 => ?_) (fun hc37 => ?_) | refine wp_if_eq (t := 44) (ck_get kk_Mo_testOf 21 rfl) (by decide) (fun hc37 => ?_) (fun hc37 => ?_)
          · refine wp_iconst (v := nI 0) (by decide) (ck_get kk_Mo_testOf 24 rfl) ?_
            refine wp_istore_n (ck_get kk_Mo_testOf 25 rfl) (by decide) rfl ?_
            refine wp_goto (t := 6) (ck_get kk_Mo_testOf 26 rfl) (by decide) ?_
            exact hR _
          · exact absurd rfl hc37
      · exact absurd rfl hc16
  · skip
    refine wp_aload_n rfl (ck_get kk_Mo_testOf 4 rfl) ?_
    refine wp_iconst (v := nI 4) (by decide) (ck_get kk_Mo_testOf 5 rfl) ?_
    refine wp_cV1i (ck_get kk_Mo_testOf 6 rfl) ml_Mo_318 (by omega) (Nat.le_of_ble_eq_true rfl) (by assumption) (Ci.to (m_passes (by exact hM0) hge hg2 hi) ?_)
    rintro x₁ M₁ ⟨rfl, rfl⟩
    rw [decide_eq_true h1, if_pos h1]
    first | refine wp_if_eqN (t := 49) (ck_get kk_Mo_testOf 7 rfl) (by decide) (by omega) (fun hc11 => ?_) (fun hc11 => ?_) | refine wp_if_eq (t := 49) (ck_get kk_Mo_testOf 7 rfl) (by decide) (fun hc11 => ?_) (fun hc11 => ?_)
    · exact absurd hc11 (by decide)
    · refine wp_aload_n rfl (ck_get kk_Mo_testOf 8 rfl) ?_
      refine wp_iload_n rfl (ck_get kk_Mo_testOf 9 rfl) ?_
      first | refine wp_if_eqN (t := 27) (ck_get kk_Mo_testOf 10 rfl) (by decide) (by omega) (fun hc16 => ?_) (fun hc16 => ?_) | refine wp_if_eq (t := 27) (ck_get kk_Mo_testOf 10 rfl) (by decide) (fun hc16 => ?_) (fun hc16 => ?_)
      · refine wp_iconst (v := nI 0) (by decide) (ck_get kk_Mo_testOf 15 rfl) ?_
        refine wp_cV1i (ck_get kk_Mo_testOf 16 rfl) ml_Mo_336 (by omega) (Nat.le_of_ble_eq_true rfl) (by assumption) (Ci.to (hT) ?_)
        rintro x₂ M₂ ⟨rfl, rfl⟩
        refine wp_istore_n (ck_get kk_Mo_testOf 17 rfl) (by decide) rfl ?_
        refine wp_iload_n rfl (ck_get kk_Mo_testOf 18 rfl) ?_
        first | refine wp_if_neN (t := 40) (ck_get kk_Mo_testOf 19 rfl) (by decide) (by omega) (fun hc33 => ?_) (fun hc33 => ?_) | refine wp_if_ne (t := 40) (ck_get kk_Mo_testOf 19 rfl) (by decide) (fun hc33 => ?_) (fun hc33 => ?_)
        · exact absurd rfl hc33
        · refine wp_iload_n rfl (ck_get kk_Mo_testOf 20 rfl) ?_
          first | refine wp_if_eqN (t := 44) (ck_get kk_Mo_testOf 21 rfl) (by decide) (by omega) (fun hc37 => ?_) (fun hc37 => ?_) | refine wp_if_eq (t := 44) (ck_get kk_Mo_testOf 21 rfl) (by decide) (fun hc37 => ?_) (fun hc37 => ?_)
          · exact absurd hc37 (by decide)
          · refine wp_iconst (v := nI 1) (by decide) (ck_get kk_Mo_testOf 22 rfl) ?_
            refine wp_goto (t := 45) (ck_get kk_Mo_testOf 23 rfl) (by decide) ?_
            refine wp_istore_n (ck_get kk_Mo_testOf 25 rfl) (by decide) rfl ?_
            refine wp_goto (t := 6) (ck_get kk_Mo_testOf 26 rfl) (by decide) ?_
            exact hR _
      · exact absurd rfl hc16
  · skip
    refine wp_aload_n rfl (ck_get kk_Mo_testOf 4 rfl) ?_
    refine wp_iconst (v := nI 4) (by decide) (ck_get kk_Mo_testOf 5 rfl) ?_
    refine wp_cV1i (ck_get kk_Mo_testOf 6 rfl) ml_Mo_318 (by omega) (Nat.le_of_ble_eq_true rfl) (by assumption) (Ci.to (m_passes (by exact hM0) hge hg2 hi) ?_)
    rintro x₁ M₁ ⟨rfl, rfl⟩
    rw [decide_eq_true h1, if_pos h1]
    first | refine wp_if_eqN (t := 49) (ck_get kk_Mo_testOf 7 rfl) (by decide) (by omega) (fun hc11 => ?_) (fun hc11 => ?_) | refine wp_if_eq (t := 49) (ck_get kk_Mo_testOf 7 rfl) (by decide) (fun hc11 => ?_) (fun hc11 => ?_)
    · exact absurd hc11 (by decide)
    · refine wp_aload_n rfl (ck_get kk_Mo_testOf 8 rfl) ?_
      refine wp_iload_n rfl (ck_get kk_Mo_testOf 9 rfl) ?_
      first | refine wp_if_eqN (t := 27) (ck_get kk_Mo_testOf 10 rfl) (by decide) (by omega) (fun hc16 => ?_) (fun hc16 => ?_) | refine wp_if_eq (t := 27) (ck_get kk_Mo_testOf 10 rfl) (by decide) (fun hc16 => ?_) (fun hc16 => ?_)
      · refine wp_iconst (v := nI 0) (by decide) (ck_get kk_Mo_testOf 15 rfl) ?_
        refine wp_cV1i (ck_get kk_Mo_testOf 16 rfl) ml_Mo_336 (by omega) (Nat.le_of_ble_eq_true rfl) (by assumption) (Ci.to (hT) ?_)
        rintro x₂ M₂ ⟨rfl, rfl⟩
        refine wp_istore_n (ck_get kk_Mo_testOf 17 rfl) (by decide) rfl ?_
        refine wp_iload_n rfl (ck_get kk_Mo_testOf 18 rfl) ?_
        first | refine wp_if_neN (t := 40) (ck_get kk_Mo_testOf 19 rfl) (by decide) (by omega) (fun hc33 => ?_) (fun hc33 => ?_) | refine wp_if_ne (t := 40) (ck_get kk_Mo_testOf 19 rfl) (by decide) (fun hc33 => ?_) (fun hc33 => ?_)
        · refine wp_iconst (v := nI 1) (by decide) (ck_get kk_Mo_testOf 22 rfl) ?_
          refine wp_goto (t := 45) (ck_get kk_Mo_testOf 23 rfl) (by decide) ?_
          refine wp_istore_n (ck_get kk_Mo_testOf 25 rfl) (by decide) rfl ?_
          refine wp_goto (t := 6) (ck_get kk_Mo_testOf 26 rfl) (by decide) ?_
          exact hR _
        · exact absurd hc33 (by decide)
      · exact absurd rfl hc16
  · skip
    refine wp_aload_n rfl (ck_get kk_Mo_testOf 4 rfl) ?_
    refine wp_iconst (v := nI 4) (by decide) (ck_get kk_Mo_testOf 5 rfl) ?_
    refine wp_cV1i (ck_get kk_Mo_testOf 6 rfl) ml_Mo_318 (by omega) (Nat.le_of_ble_eq_true rfl) (by assumption) (Ci.to (m_passes (by exact hM0) hge hg2 hi) ?_)
    rintro x₁ M₁ ⟨rfl, rfl⟩
    rw [decide_eq_true h1, if_pos h1]
    first | refine wp_if_eqN (t := 49) (ck_get kk_Mo_testOf 7 rfl) (by decide) (by omega) (fun hc11 => ?_) (fun hc11 => ?_) | refine wp_if_eq (t := 49) (ck_get kk_Mo_testOf 7 rfl) (by decide) (fun hc11 => ?_) (fun hc11 => ?_)
    · exact absurd hc11 (by decide)
    · refine wp_aload_n rfl (ck_get kk_Mo_testOf 8 rfl) ?_
      refine wp_iload_n rfl (ck_get kk_Mo_testOf 9 rfl) ?_
      first | refine wp_if_eqN (t := 27) (ck_get kk_Mo_testOf 10 rfl) (by decide) (by omega) (fun hc16 => ?_) (fun hc16 => ?_) | refine wp_if_eq (t := 27) (ck_get kk_Mo_testOf 10 rfl) (by decide) (fun hc16 => ?_) (fun hc16 => ?_)
      · refine wp_iconst (v := nI 0) (by decide) (ck_get kk_Mo_testOf 15 rfl) ?_
        refine wp_cV1i (ck_get kk_Mo_testOf 16 rfl) ml_Mo_336 (by omega) (Nat.le_of_ble_eq_true rfl) (by assumption) (Ci.to (hT) ?_)
        rintro x₂ M₂ ⟨rfl, rfl⟩
        refine wp_istore_n (ck_get kk_Mo_testOf 17 rfl) (by decide) rfl ?_
        refine wp_iload_n rfl (ck_get kk_Mo_testOf 18 rfl) ?_
        first | refine wp_if_neN (t := 40) (ck_get kk_Mo_testOf 19 rfl) (by decide) (by omega) (fun hc33 => ?_) (fun hc33 => ?_) | refine wp_if_ne (t := 40) (ck_get kk_Mo_testOf 19 rfl) (by decide) (fun hc33 => ?_) (fun hc33 => ?_)
        · refine wp_iconst (v := nI 1) (by decide) (ck_get kk_Mo_testOf 22 rfl) ?_
          refine wp_goto (t := 45) (ck_get kk_Mo_testOf 23 rfl) (by decide) ?_
          refine wp_istore_n (ck_get kk_Mo_testOf 25 rfl) (by decide) rfl ?_
          refine wp_goto (t := 6) (ck_get kk_Mo_testOf 26 rfl) (by decide) ?_
          exact hR _
        · exact absurd hc33 (by decide)
      · exact absurd rfl hc16
  · skip
    refine wp_aload_n rfl (ck_get kk_Mo_testOf 4 rfl) ?_
    refine wp_iconst (v := nI 4) (by decide) (ck_get kk_Mo_testOf 5 rfl) ?_
    refine wp_cV1i (ck_get kk_Mo_testOf 6 rfl) ml_Mo_318 (by omega) (Nat.le_of_ble_eq_true rfl) (by assumption) (Ci.to (m_passes (by exact hM0) hge hg2 hi) ?_)
    rintro x₁ M₁ ⟨rfl, rfl⟩
    rw [decide_eq_true h1, if_pos h1]
    first | refine wp_if_eqN (t := 49) (ck_get kk_Mo_testOf 7 rfl) (by decide) (by omega) (fun hc11 => ?_) (fun hc11 => ?_) | refine wp_if_eq (t := 49) (ck_get kk_Mo_testOf 7 rfl) (by decide) (fun hc11 => ?_) (fun hc11 => ?_)
    · exact absurd hc11 (by decide)
    · refine wp_aload_n rfl (ck_get kk_Mo_testOf 8 rfl) ?_
      refine wp_iload_n rfl (ck_get kk_Mo_testOf 9 rfl) ?_
      first | refine wp_if_eqN (t := 27) (ck_get kk_Mo_testOf 10 rfl) (by decide) (by omega) (fun hc16 => ?_) (fun hc16 => ?_) | refine wp_if_eq (t := 27) (ck_get kk_Mo_testOf 10 rfl) (by decide) (fun hc16 => ?_) (fun hc16 => ?_)
      · exact absurd hc16 (by decide)
      · refine wp_iload_n rfl (ck_get kk_Mo_testOf 11 rfl) ?_
        first | refine wp_if_neN (t := 27) (ck_get kk_Mo_testOf 12 rfl) (by decide) (by omega) (fun hc20 => ?_) (fun hc20 => ?_) | refine wp_if_ne (t := 27) (ck_get kk_Mo_testOf 12 rfl) (by decide) (fun hc20 => ?_) (fun hc20 => ?_)
        · exact absurd rfl hc20
        · refine wp_iconst (v := nI 1) (by decide) (ck_get kk_Mo_testOf 13 rfl) ?_
          refine wp_goto (t := 28) (ck_get kk_Mo_testOf 14 rfl) (by decide) ?_
          refine wp_cV1i (ck_get kk_Mo_testOf 16 rfl) ml_Mo_336 (by omega) (Nat.le_of_ble_eq_true rfl) (by assumption) (Ci.to (hT) ?_)
          rintro x₂ M₂ ⟨rfl, rfl⟩
          refine wp_istore_n (ck_get kk_Mo_testOf 17 rfl) (by decide) rfl ?_
          refine wp_iload_n rfl (ck_get kk_Mo_testOf 18 rfl) ?_
          first | refine wp_if_neN (t := 40) (ck_get kk_Mo_testOf 19 rfl) (by decide) (by omega) (fun hc33 => ?_) (fun hc33 => ?_) | refine wp_if_ne (t := 40) (ck_get kk_Mo_testOf 19 rfl) (by decide) (fun hc33 => ?_) (fun hc33 => ?_)
          · exact absurd rfl hc33
          · refine wp_iload_n rfl (ck_get kk_Mo_testOf 20 rfl) ?_
            first | refine wp_if_eqN (t := 44) (ck_get kk_Mo_testOf 21 rfl) (by decide) (by omega) (fun hc37 => ?_) (fun hc37 => ?_) | refine wp_if_eq (t := 44) (ck_get kk_Mo_testOf 21 rfl) (by decide) (fun hc37 => ?_) (fun hc37 => ?_)
            · refine wp_iconst (v := nI 0) (by decide) (ck_get kk_Mo_testOf 24 rfl) ?_
              refine wp_istore_n (ck_get kk_Mo_testOf 25 rfl) (by decide) rfl ?_
              refine wp_goto (t := 6) (ck_get kk_Mo_testOf 26 rfl) (by decide) ?_
              exact hR _
            · exact absurd rfl hc37
  · skip
    refine wp_aload_n rfl (ck_get kk_Mo_testOf 4 rfl) ?_
    refine wp_iconst (v := nI 4) (by decide) (ck_get kk_Mo_testOf 5 rfl) ?_
    refine wp_cV1i (ck_get kk_Mo_testOf 6 rfl) ml_Mo_318 (by omega) (Nat.le_of_ble_eq_true rfl) (by assumption) (Ci.to (m_passes (by exact hM0) hge hg2 hi) ?_)
    rintro x₁ M₁ ⟨rfl, rfl⟩
    rw [decide_eq_true h1, if_pos h1]
    first | refine wp_if_eqN (t := 49) (ck_get kk_Mo_testOf 7 rfl) (by decide) (by omega) (fun hc11 => ?_) (fun hc11 => ?_) | refine wp_if_eq (t := 49) (ck_get kk_Mo_testOf 7 rfl) (by decide) (fun hc11 => ?_) (fun hc11 => ?_)
    · exact absurd hc11 (by decide)
    · refine wp_aload_n rfl (ck_get kk_Mo_testOf 8 rfl) ?_
      refine wp_iload_n rfl (ck_get kk_Mo_testOf 9 rfl) ?_
      first | refine wp_if_eqN (t := 27) (ck_get kk_Mo_testOf 10 rfl) (by decide) (by omega) (fun hc16 => ?_) (fun hc16 => ?_) | refine wp_if_eq (t := 27) (ck_get kk_Mo_testOf 10 rfl) (by decide) (fun hc16 => ?_) (fun hc16 => ?_)
      · exact absurd hc16 (by decide)
      · refine wp_iload_n rfl (ck_get kk_Mo_testOf 11 rfl) ?_
        first | refine wp_if_neN (t := 27) (ck_get kk_Mo_testOf 12 rfl) (by decide) (by omega) (fun hc20 => ?_) (fun hc20 => ?_) | refine wp_if_ne (t := 27) (ck_get kk_Mo_testOf 12 rfl) (by decide) (fun hc20 => ?_) (fun hc20 => ?_)
        · exact absurd rfl hc20
        · refine wp_iconst (v := nI 1) (by decide) (ck_get kk_Mo_testOf 13 rfl) ?_
          refine wp_goto (t := 28) (ck_get kk_Mo_testOf 14 rfl) (by decide) ?_
          refine wp_cV1i (ck_get kk_Mo_testOf 16 rfl) ml_Mo_336 (by omega) (Nat.le_of_ble_eq_true rfl) (by assumption) (Ci.to (hT) ?_)
          rintro x₂ M₂ ⟨rfl, rfl⟩
          refine wp_istore_n (ck_get kk_Mo_testOf 17 rfl) (by decide) rfl ?_
          refine wp_iload_n rfl (ck_get kk_Mo_testOf 18 rfl) ?_
          first | refine wp_if_neN (t := 40) (ck_get kk_Mo_testOf 19 rfl) (by decide) (by omega) (fun hc33 => ?_) (fun hc33 => ?_) | refine wp_if_ne (t := 40) (ck_get kk_Mo_testOf 19 rfl) (by decide) (fun hc33 => ?_) (fun hc33 => ?_)
          · exact absurd rfl hc33
          · refine wp_iload_n rfl (ck_get kk_Mo_testOf 20 rfl) ?_
            first | refine wp_if_eqN (t := 44) (ck_get kk_Mo_testOf 21 rfl) (by decide) (by omega) (fun hc37 => ?_) (fun hc37 => ?_) | refine wp_if_eq (t := 44) (ck_get kk_Mo_testOf 21 rfl) (by decide) (fun hc37 => ?_) (fun hc37 => ?_)
            · exact absurd hc37 (by decide)
            · refine wp_iconst (v := nI 1) (by decide) (ck_get kk_Mo_testOf 22 rfl) ?_
              refine wp_goto (t := 45) (ck_get kk_Mo_testOf 23 rfl) (by decide) ?_
              refine wp_istore_n (ck_get kk_Mo_testOf 25 rfl) (by decide) rfl ?_
              refine wp_goto (t := 6) (ck_get kk_Mo_testOf 26 rfl) (by decide) ?_
              exact hR _
  · skip
    refine wp_aload_n rfl (ck_get kk_Mo_testOf 4 rfl) ?_
    refine wp_iconst (v := nI 4) (by decide) (ck_get kk_Mo_testOf 5 rfl) ?_
    refine wp_cV1i (ck_get kk_Mo_testOf 6 rfl) ml_Mo_318 (by omega) (Nat.le_of_ble_eq_true rfl) (by assumption) (Ci.to (m_passes (by exact hM0) hge hg2 hi) ?_)
    rintro x₁ M₁ ⟨rfl, rfl⟩
    rw [decide_eq_true h1, if_pos h1]
    first | refine wp_if_eqN (t := 49) (ck_get kk_Mo_testOf 7 rfl) (by decide) (by omega) (fun hc11 => ?_) (fun hc11 => ?_) | refine wp_if_eq (t := 49) (ck_get kk_Mo_testOf 7 rfl) (by decide) (fun hc11 => ?_) (fun hc11 => ?_)
    · exact absurd hc11 (by decide)
    · refine wp_aload_n rfl (ck_get kk_Mo_testOf 8 rfl) ?_
      refine wp_iload_n rfl (ck_get kk_Mo_testOf 9 rfl) ?_
      first | refine wp_if_eqN (t := 27) (ck_get kk_Mo_testOf 10 rfl) (by decide) (by omega) (fun hc16 => ?_) (fun hc16 => ?_) | refine wp_if_eq (t := 27) (ck_get kk_Mo_testOf 10 rfl) (by decide) (fun hc16 => ?_) (fun hc16 => ?_)
      · exact absurd hc16 (by decide)
      · refine wp_iload_n rfl (ck_get kk_Mo_testOf 11 rfl) ?_
        first | refine wp_if_neN (t := 27) (ck_get kk_Mo_testOf 12 rfl) (by decide) (by omega) (fun hc20 => ?_) (fun hc20 => ?_) | refine wp_if_ne (t := 27) (ck_get kk_Mo_testOf 12 rfl) (by decide) (fun hc20 => ?_) (fun hc20 => ?_)
        · refine wp_iconst (v := nI 0) (by decide) (ck_get kk_Mo_testOf 15 rfl) ?_
          refine wp_cV1i (ck_get kk_Mo_testOf 16 rfl) ml_Mo_336 (by omega) (Nat.le_of_ble_eq_true rfl) (by assumption) (Ci.to (hT) ?_)
          rintro x₂ M₂ ⟨rfl, rfl⟩
          refine wp_istore_n (ck_get kk_Mo_testOf 17 rfl) (by decide) rfl ?_
          refine wp_iload_n rfl (ck_get kk_Mo_testOf 18 rfl) ?_
          first | refine wp_if_neN (t := 40) (ck_get kk_Mo_testOf 19 rfl) (by decide) (by omega) (fun hc33 => ?_) (fun hc33 => ?_) | refine wp_if_ne (t := 40) (ck_get kk_Mo_testOf 19 rfl) (by decide) (fun hc33 => ?_) (fun hc33 => ?_)
          · refine wp_iconst (v := nI 1) (by decide) (ck_get kk_Mo_testOf 22 rfl) ?_
            refine wp_goto (t := 45) (ck_get kk_Mo_testOf 23 rfl) (by decide) ?_
            refine wp_istore_n (ck_get kk_Mo_testOf 25 rfl) (by decide) rfl ?_
            refine wp_goto (t := 6) (ck_get kk_Mo_testOf 26 rfl) (by decide) ?_
            exact hR _
          · exact absurd hc33 (by decide)
        · exact absurd hc20 (by decide)
  · skip
    refine wp_aload_n rfl (ck_get kk_Mo_testOf 4 rfl) ?_
    refine wp_iconst (v := nI 4) (by decide) (ck_get kk_Mo_testOf 5 rfl) ?_
    refine wp_cV1i (ck_get kk_Mo_testOf 6 rfl) ml_Mo_318 (by omega) (Nat.le_of_ble_eq_true rfl) (by assumption) (Ci.to (m_passes (by exact hM0) hge hg2 hi) ?_)
    rintro x₁ M₁ ⟨rfl, rfl⟩
    rw [decide_eq_true h1, if_pos h1]
    first | refine wp_if_eqN (t := 49) (ck_get kk_Mo_testOf 7 rfl) (by decide) (by omega) (fun hc11 => ?_) (fun hc11 => ?_) | refine wp_if_eq (t := 49) (ck_get kk_Mo_testOf 7 rfl) (by decide) (fun hc11 => ?_) (fun hc11 => ?_)
    · exact absurd hc11 (by decide)
    · refine wp_aload_n rfl (ck_get kk_Mo_testOf 8 rfl) ?_
      refine wp_iload_n rfl (ck_get kk_Mo_testOf 9 rfl) ?_
      first | refine wp_if_eqN (t := 27) (ck_get kk_Mo_testOf 10 rfl) (by decide) (by omega) (fun hc16 => ?_) (fun hc16 => ?_) | refine wp_if_eq (t := 27) (ck_get kk_Mo_testOf 10 rfl) (by decide) (fun hc16 => ?_) (fun hc16 => ?_)
      · exact absurd hc16 (by decide)
      · refine wp_iload_n rfl (ck_get kk_Mo_testOf 11 rfl) ?_
        first | refine wp_if_neN (t := 27) (ck_get kk_Mo_testOf 12 rfl) (by decide) (by omega) (fun hc20 => ?_) (fun hc20 => ?_) | refine wp_if_ne (t := 27) (ck_get kk_Mo_testOf 12 rfl) (by decide) (fun hc20 => ?_) (fun hc20 => ?_)
        · refine wp_iconst (v := nI 0) (by decide) (ck_get kk_Mo_testOf 15 rfl) ?_
          refine wp_cV1i (ck_get kk_Mo_testOf 16 rfl) ml_Mo_336 (by omega) (Nat.le_of_ble_eq_true rfl) (by assumption) (Ci.to (hT) ?_)
          rintro x₂ M₂ ⟨rfl, rfl⟩
          refine wp_istore_n (ck_get kk_Mo_testOf 17 rfl) (by decide) rfl ?_
          refine wp_iload_n rfl (ck_get kk_Mo_testOf 18 rfl) ?_
          first | refine wp_if_neN (t := 40) (ck_get kk_Mo_testOf 19 rfl) (by decide) (by omega) (fun hc33 => ?_) (fun hc33 => ?_) | refine wp_if_ne (t := 40) (ck_get kk_Mo_testOf 19 rfl) (by decide) (fun hc33 => ?_) (fun hc33 => ?_)
          · refine wp_iconst (v := nI 1) (by decide) (ck_get kk_Mo_testOf 22 rfl) ?_
            refine wp_goto (t := 45) (ck_get kk_Mo_testOf 23 rfl) (by decide) ?_
            refine wp_istore_n (ck_get kk_Mo_testOf 25 rfl) (by decide) rfl ?_
            refine wp_goto (t := 6) (ck_get kk_Mo_testOf 26 rfl) (by decide) ?_
            exact hR _
          · exact absurd hc33 (by decide)
        · exact absurd hc20 (by decide)
theorem me_bothAnd {live b b1 v w z b2 : Bool} {i i1 i2 : Nat} {x3 : Option Value} (hM : MoAt (mT M) (mR M) o) (hge : mI M o 26 = nI ge) (hg2 : ge ≤ 2800) (hi : i < 100000) (h1 : tcd (mI M (o + 2)) ge i = nI 5) (hn : 1 ≤ n) (hT : Ci g Y_Mo_plainOf n [.ref o, .int (bI (live && v))] (emM M o (i + 1) b) (fun x M2 => x = bI w ∧ M2 = emM M o i1 b1))
    (hR : ∀ y3, Wp g Y_Mo_bothOf (n + 1) 6 [some (.ref o), some (.int (bI live)), some (.int (bI (v && w))), y3] [] (emM M o i1 b1) (emB M o z i2 b2)) :
    Wp g Y_Mo_bothOf (n + 1) 6 [some (.ref o), some (.int (bI live)), some (.int (bI v)), x3] [] (emM M o i b) (emB M o z i2 b2) := by
  have hM0 := hM
  have to0 := hM.1
  cases live <;> cases v <;> cases w
  · skip
    refine wp_aload_n rfl (ck_get kk_Mo_bothOf 4 rfl) ?_
    refine wp_iconst (v := nI 5) (by decide) (ck_get kk_Mo_bothOf 5 rfl) ?_
    refine wp_cV1i (ck_get kk_Mo_bothOf 6 rfl) ml_Mo_318 (by omega) (Nat.le_of_ble_eq_true rfl) (by assumption) (Ci.to (m_passes (by exact hM0) hge hg2 hi) ?_)
    rintro x₁ M₁ ⟨rfl, rfl⟩
    rw [decide_eq_true h1, if_pos h1]
    first | refine wp_if_eqN (t := 49) (ck_get kk_Mo_bothOf 7 rfl) (by decide) (by omega) (fun hc11 => ?_) (fun hc11 => ?_) | refine wp_if_eq (t := 49) (ck_get kk_Mo_bothOf 7 rfl) (by decide) (fun hc11 => ?_) (fun hc11 => ?_)
    · exact absurd hc11 (by decide)
    · refine wp_aload_n rfl (ck_get kk_Mo_bothOf 8 rfl) ?_
      refine wp_iload_n rfl (ck_get kk_Mo_bothOf 9 rfl) ?_
      first | refine wp_if_eqN (t := 27) (ck_get kk_Mo_bothOf 10 rfl) (by decide) (by omega) (fun hc16 => ?_) (fun hc16 => ?_) | refine wp_if_eq (t := 27) (ck_get kk_Mo_bothOf 10 rfl) (by decide) (fun hc16 => ?_) (fun hc16 => ?_)
      · refine wp_iconst (v := nI 0) (by decide) (ck_get kk_Mo_bothOf 15 rfl) ?_
        refine wp_cV1i (ck_get kk_Mo_bothOf 16 rfl) ml_Mo_339 (by omega) (Nat.le_of_ble_eq_true rfl) (by assumption) (Ci.to (hT) ?_)
        rintro x₂ M₂ ⟨rfl, rfl⟩
        refine wp_istore_n (ck_get kk_Mo_bothOf 17 rfl) (by decide) rfl ?_
        refine wp_iload_n rfl (ck_get kk_Mo_bothOf 18 rfl) ?_
        first | refine wp_if_eqN (t := 44) (ck_get kk_Mo_bothOf 19 rfl) (by decide) (by omega) (fun hc33 => ?_) (fun hc33 => ?_) | refine wp_if_eq (t := 44) (ck_get kk_Mo_bothOf 19 rfl) (by decide) (fun hc33 => ?_) (fun hc33 => ?_)
        · refine wp_iconst (v := nI 0) (by decide) (ck_get kk_Mo_bothOf 24 rfl) ?_
          refine wp_istore_n (ck_get kk_Mo_bothOf 25 rfl) (by decide) rfl ?_
          refine wp_goto (t := 6) (ck_get kk_Mo_bothOf 26 rfl) (by decide) ?_
          exact hR _
        · exact absurd rfl hc33
      · exact absurd rfl hc16
  · skip
    refine wp_aload_n rfl (ck_get kk_Mo_bothOf 4 rfl) ?_
    refine wp_iconst (v := nI 5) (by decide) (ck_get kk_Mo_bothOf 5 rfl) ?_
    refine wp_cV1i (ck_get kk_Mo_bothOf 6 rfl) ml_Mo_318 (by omega) (Nat.le_of_ble_eq_true rfl) (by assumption) (Ci.to (m_passes (by exact hM0) hge hg2 hi) ?_)
    rintro x₁ M₁ ⟨rfl, rfl⟩
    rw [decide_eq_true h1, if_pos h1]
    first | refine wp_if_eqN (t := 49) (ck_get kk_Mo_bothOf 7 rfl) (by decide) (by omega) (fun hc11 => ?_) (fun hc11 => ?_) | refine wp_if_eq (t := 49) (ck_get kk_Mo_bothOf 7 rfl) (by decide) (fun hc11 => ?_) (fun hc11 => ?_)
    · exact absurd hc11 (by decide)
    · refine wp_aload_n rfl (ck_get kk_Mo_bothOf 8 rfl) ?_
      refine wp_iload_n rfl (ck_get kk_Mo_bothOf 9 rfl) ?_
      first | refine wp_if_eqN (t := 27) (ck_get kk_Mo_bothOf 10 rfl) (by decide) (by omega) (fun hc16 => ?_) (fun hc16 => ?_) | refine wp_if_eq (t := 27) (ck_get kk_Mo_bothOf 10 rfl) (by decide) (fun hc16 => ?_) (fun hc16 => ?_)
      · refine wp_iconst (v := nI 0) (by decide) (ck_get kk_Mo_bothOf 15 rfl) ?_
        refine wp_cV1i (ck_get kk_Mo_bothOf 16 rfl) ml_Mo_339 (by omega) (Nat.le_of_ble_eq_true rfl) (by assumption) (Ci.to (hT) ?_)
        rintro x₂ M₂ ⟨rfl, rfl⟩
        refine wp_istore_n (ck_get kk_Mo_bothOf 17 rfl) (by decide) rfl ?_
        refine wp_iload_n rfl (ck_get kk_Mo_bothOf 18 rfl) ?_
        first | refine wp_if_eqN (t := 44) (ck_get kk_Mo_bothOf 19 rfl) (by decide) (by omega) (fun hc33 => ?_) (fun hc33 => ?_) | refine wp_if_eq (t := 44) (ck_get kk_Mo_bothOf 19 rfl) (by decide) (fun hc33 => ?_) (fun hc33 => ?_)
        · refine wp_iconst (v := nI 0) (by decide) (ck_get kk_Mo_bothOf 24 rfl) ?_
          refine wp_istore_n (ck_get kk_Mo_bothOf 25 rfl) (by decide) rfl ?_
          refine wp_goto (t := 6) (ck_get kk_Mo_bothOf 26 rfl) (by decide) ?_
          exact hR _
        · exact absurd rfl hc33
      · exact absurd rfl hc16
  · skip
    refine wp_aload_n rfl (ck_get kk_Mo_bothOf 4 rfl) ?_
    refine wp_iconst (v := nI 5) (by decide) (ck_get kk_Mo_bothOf 5 rfl) ?_
    refine wp_cV1i (ck_get kk_Mo_bothOf 6 rfl) ml_Mo_318 (by omega) (Nat.le_of_ble_eq_true rfl) (by assumption) (Ci.to (m_passes (by exact hM0) hge hg2 hi) ?_)
    rintro x₁ M₁ ⟨rfl, rfl⟩
    rw [decide_eq_true h1, if_pos h1]
    first | refine wp_if_eqN (t := 49) (ck_get kk_Mo_bothOf 7 rfl) (by decide) (by omega) (fun hc11 => ?_) (fun hc11 => ?_) | refine wp_if_eq (t := 49) (ck_get kk_Mo_bothOf 7 rfl) (by decide) (fun hc11 => ?_) (fun hc11 => ?_)
    · exact absurd hc11 (by decide)
    · refine wp_aload_n rfl (ck_get kk_Mo_bothOf 8 rfl) ?_
      refine wp_iload_n rfl (ck_get kk_Mo_bothOf 9 rfl) ?_
      first | refine wp_if_eqN (t := 27) (ck_get kk_Mo_bothOf 10 rfl) (by decide) (by omega) (fun hc16 => ?_) (fun hc16 => ?_) | refine wp_if_eq (t := 27) (ck_get kk_Mo_bothOf 10 rfl) (by decide) (fun hc16 => ?_) (fun hc16 => ?_)
      · refine wp_iconst (v := nI 0) (by decide) (ck_get kk_Mo_bothOf 15 rfl) ?_
        refine wp_cV1i (ck_get kk_Mo_bothOf 16 rfl) ml_Mo_339 (by omega) (Nat.le_of_ble_eq_true rfl) (by assumption) (Ci.to (hT) ?_)
        rintro x₂ M₂ ⟨rfl, rfl⟩
        refine wp_istore_n (ck_get kk_Mo_bothOf 17 rfl) (by decide) rfl ?_
        refine wp_iload_n rfl (ck_get kk_Mo_bothOf 18 rfl) ?_
        first | refine wp_if_eqN (t := 44) (ck_get kk_Mo_bothOf 19 rfl) (by decide) (by omega) (fun hc33 => ?_) (fun hc33 => ?_) | refine wp_if_eq (t := 44) (ck_get kk_Mo_bothOf 19 rfl) (by decide) (fun hc33 => ?_) (fun hc33 => ?_)
        · exact absurd hc33 (by decide)
        · refine wp_iload_n rfl (ck_get kk_Mo_bothOf 20 rfl) ?_
          first | refine wp_if_eqN (t := 44) (ck_get kk_Mo_bothOf 21 rfl) (by decide) (by omega) (fun hc37 => ?_) (fun hc37 => ?_) | refine wp_if_eq (t := 44) (ck_get kk_Mo_bothOf 21 rfl) (by decide) (fun hc37 => ?_) (fun hc37 => ?_)
          · refine wp_iconst (v := nI 0) (by decide) (ck_get kk_Mo_bothOf 24 rfl) ?_
            refine wp_istore_n (ck_get kk_Mo_bothOf 25 rfl) (by decide) rfl ?_
            refine wp_goto (t := 6) (ck_get kk_Mo_bothOf 26 rfl) (by decide) ?_
            exact hR _
          · exact absurd rfl hc37
      · exact absurd rfl hc16
  · skip
    refine wp_aload_n rfl (ck_get kk_Mo_bothOf 4 rfl) ?_
    refine wp_iconst (v := nI 5) (by decide) (ck_get kk_Mo_bothOf 5 rfl) ?_
    refine wp_cV1i (ck_get kk_Mo_bothOf 6 rfl) ml_Mo_318 (by omega) (Nat.le_of_ble_eq_true rfl) (by assumption) (Ci.to (m_passes (by exact hM0) hge hg2 hi) ?_)
    rintro x₁ M₁ ⟨rfl, rfl⟩
    rw [decide_eq_true h1, if_pos h1]
    first | refine wp_if_eqN (t := 49) (ck_get kk_Mo_bothOf 7 rfl) (by decide) (by omega) (fun hc11 => ?_) (fun hc11 => ?_) | refine wp_if_eq (t := 49) (ck_get kk_Mo_bothOf 7 rfl) (by decide) (fun hc11 => ?_) (fun hc11 => ?_)
    · exact absurd hc11 (by decide)
    · refine wp_aload_n rfl (ck_get kk_Mo_bothOf 8 rfl) ?_
      refine wp_iload_n rfl (ck_get kk_Mo_bothOf 9 rfl) ?_
      first | refine wp_if_eqN (t := 27) (ck_get kk_Mo_bothOf 10 rfl) (by decide) (by omega) (fun hc16 => ?_) (fun hc16 => ?_) | refine wp_if_eq (t := 27) (ck_get kk_Mo_bothOf 10 rfl) (by decide) (fun hc16 => ?_) (fun hc16 => ?_)
      · refine wp_iconst (v := nI 0) (by decide) (ck_get kk_Mo_bothOf 15 rfl) ?_
        refine wp_cV1i (ck_get kk_Mo_bothOf 16 rfl) ml_Mo_339 (by omega) (Nat.le_of_ble_eq_true rfl) (by assumption) (Ci.to (hT) ?_)
        rintro x₂ M₂ ⟨rfl, rfl⟩
        refine wp_istore_n (ck_get kk_Mo_bothOf 17 rfl) (by decide) rfl ?_
        refine wp_iload_n rfl (ck_get kk_Mo_bothOf 18 rfl) ?_
        first | refine wp_if_eqN (t := 44) (ck_get kk_Mo_bothOf 19 rfl) (by decide) (by omega) (fun hc33 => ?_) (fun hc33 => ?_) | refine wp_if_eq (t := 44) (ck_get kk_Mo_bothOf 19 rfl) (by decide) (fun hc33 => ?_) (fun hc33 => ?_)
        · exact absurd hc33 (by decide)
        · refine wp_iload_n rfl (ck_get kk_Mo_bothOf 20 rfl) ?_
          first | refine wp_if_eqN (t := 44) (ck_get kk_Mo_bothOf 21 rfl) (by decide) (by omega) (fun hc37 => ?_) (fun hc37 => ?_) | refine wp_if_eq (t := 44) (ck_get kk_Mo_bothOf 21 rfl) (by decide) (fun hc37 => ?_) (fun hc37 => ?_)
          · exact absurd hc37 (by decide)
          · refine wp_iconst (v := nI 1) (by decide) (ck_get kk_Mo_bothOf 22 rfl) ?_
            refine wp_goto (t := 45) (ck_get kk_Mo_bothOf 23 rfl) (by decide) ?_
            refine wp_istore_n (ck_get kk_Mo_bothOf 25 rfl) (by decide) rfl ?_
            refine wp_goto (t := 6) (ck_get kk_Mo_bothOf 26 rfl) (by decide) ?_
            exact hR _
      · exact absurd rfl hc16
  · skip
    refine wp_aload_n rfl (ck_get kk_Mo_bothOf 4 rfl) ?_
    refine wp_iconst (v := nI 5) (by decide) (ck_get kk_Mo_bothOf 5 rfl) ?_
    refine wp_cV1i (ck_get kk_Mo_bothOf 6 rfl) ml_Mo_318 (by omega) (Nat.le_of_ble_eq_true rfl) (by assumption) (Ci.to (m_passes (by exact hM0) hge hg2 hi) ?_)
    rintro x₁ M₁ ⟨rfl, rfl⟩
    rw [decide_eq_true h1, if_pos h1]
    first | refine wp_if_eqN (t := 49) (ck_get kk_Mo_bothOf 7 rfl) (by decide) (by omega) (fun hc11 => ?_) (fun hc11 => ?_) | refine wp_if_eq (t := 49) (ck_get kk_Mo_bothOf 7 rfl) (by decide) (fun hc11 => ?_) (fun hc11 => ?_)
    · exact absurd hc11 (by decide)
    · refine wp_aload_n rfl (ck_get kk_Mo_bothOf 8 rfl) ?_
      refine wp_iload_n rfl (ck_get kk_Mo_bothOf 9 rfl) ?_
      first | refine wp_if_eqN (t := 27) (ck_get kk_Mo_bothOf 10 rfl) (by decide) (by omega) (fun hc16 => ?_) (fun hc16 => ?_) | refine wp_if_eq (t := 27) (ck_get kk_Mo_bothOf 10 rfl) (by decide) (fun hc16 => ?_) (fun hc16 => ?_)
      · exact absurd hc16 (by decide)
      · refine wp_iload_n rfl (ck_get kk_Mo_bothOf 11 rfl) ?_
        first | refine wp_if_eqN (t := 27) (ck_get kk_Mo_bothOf 12 rfl) (by decide) (by omega) (fun hc20 => ?_) (fun hc20 => ?_) | refine wp_if_eq (t := 27) (ck_get kk_Mo_bothOf 12 rfl) (by decide) (fun hc20 => ?_) (fun hc20 => ?_)
        · refine wp_iconst (v := nI 0) (by decide) (ck_get kk_Mo_bothOf 15 rfl) ?_
          refine wp_cV1i (ck_get kk_Mo_bothOf 16 rfl) ml_Mo_339 (by omega) (Nat.le_of_ble_eq_true rfl) (by assumption) (Ci.to (hT) ?_)
          rintro x₂ M₂ ⟨rfl, rfl⟩
          refine wp_istore_n (ck_get kk_Mo_bothOf 17 rfl) (by decide) rfl ?_
          refine wp_iload_n rfl (ck_get kk_Mo_bothOf 18 rfl) ?_
          first | refine wp_if_eqN (t := 44) (ck_get kk_Mo_bothOf 19 rfl) (by decide) (by omega) (fun hc33 => ?_) (fun hc33 => ?_) | refine wp_if_eq (t := 44) (ck_get kk_Mo_bothOf 19 rfl) (by decide) (fun hc33 => ?_) (fun hc33 => ?_)
          · refine wp_iconst (v := nI 0) (by decide) (ck_get kk_Mo_bothOf 24 rfl) ?_
            refine wp_istore_n (ck_get kk_Mo_bothOf 25 rfl) (by decide) rfl ?_
            refine wp_goto (t := 6) (ck_get kk_Mo_bothOf 26 rfl) (by decide) ?_
            exact hR _
          · exact absurd rfl hc33
        · exact absurd rfl hc20
  · skip
    refine wp_aload_n rfl (ck_get kk_Mo_bothOf 4 rfl) ?_
    refine wp_iconst (v := nI 5) (by decide) (ck_get kk_Mo_bothOf 5 rfl) ?_
    refine wp_cV1i (ck_get kk_Mo_bothOf 6 rfl) ml_Mo_318 (by omega) (Nat.le_of_ble_eq_true rfl) (by assumption) (Ci.to (m_passes (by exact hM0) hge hg2 hi) ?_)
    rintro x₁ M₁ ⟨rfl, rfl⟩
    rw [decide_eq_true h1, if_pos h1]
    first | refine wp_if_eqN (t := 49) (ck_get kk_Mo_bothOf 7 rfl) (by decide) (by omega) (fun hc11 => ?_) (fun hc11 => ?_) | refine wp_if_eq (t := 49) (ck_get kk_Mo_bothOf 7 rfl) (by decide) (fun hc11 => ?_) (fun hc11 => ?_)
    · exact absurd hc11 (by decide)
    · refine wp_aload_n rfl (ck_get kk_Mo_bothOf 8 rfl) ?_
      refine wp_iload_n rfl (ck_get kk_Mo_bothOf 9 rfl) ?_
      first | refine wp_if_eqN (t := 27) (ck_get kk_Mo_bothOf 10 rfl) (by decide) (by omega) (fun hc16 => ?_) (fun hc16 => ?_) | refine wp_if_eq (t := 27) (ck_get kk_Mo_bothOf 10 rfl) (by decide) (fun hc16 => ?_) (fun hc16 => ?_)
      · exact absurd hc16 (by decide)
      · refine wp_iload_n rfl (ck_get kk_Mo_bothOf 11 rfl) ?_
        first | refine wp_if_eqN (t := 27) (ck_get kk_Mo_bothOf 12 rfl) (by decide) (by omega) (fun hc20 => ?_) (fun hc20 => ?_) | refine wp_if_eq (t := 27) (ck_get kk_Mo_bothOf 12 rfl) (by decide) (fun hc20 => ?_) (fun hc20 => ?_)
        · refine wp_iconst (v := nI 0) (by decide) (ck_get kk_Mo_bothOf 15 rfl) ?_
          refine wp_cV1i (ck_get kk_Mo_bothOf 16 rfl) ml_Mo_339 (by omega) (Nat.le_of_ble_eq_true rfl) (by assumption) (Ci.to (hT) ?_)
          rintro x₂ M₂ ⟨rfl, rfl⟩
          refine wp_istore_n (ck_get kk_Mo_bothOf 17 rfl) (by decide) rfl ?_
          refine wp_iload_n rfl (ck_get kk_Mo_bothOf 18 rfl) ?_
          first | refine wp_if_eqN (t := 44) (ck_get kk_Mo_bothOf 19 rfl) (by decide) (by omega) (fun hc33 => ?_) (fun hc33 => ?_) | refine wp_if_eq (t := 44) (ck_get kk_Mo_bothOf 19 rfl) (by decide) (fun hc33 => ?_) (fun hc33 => ?_)
          · refine wp_iconst (v := nI 0) (by decide) (ck_get kk_Mo_bothOf 24 rfl) ?_
            refine wp_istore_n (ck_get kk_Mo_bothOf 25 rfl) (by decide) rfl ?_
            refine wp_goto (t := 6) (ck_get kk_Mo_bothOf 26 rfl) (by decide) ?_
            exact hR _
          · exact absurd rfl hc33
        · exact absurd rfl hc20
  · skip
    refine wp_aload_n rfl (ck_get kk_Mo_bothOf 4 rfl) ?_
    refine wp_iconst (v := nI 5) (by decide) (ck_get kk_Mo_bothOf 5 rfl) ?_
    refine wp_cV1i (ck_get kk_Mo_bothOf 6 rfl) ml_Mo_318 (by omega) (Nat.le_of_ble_eq_true rfl) (by assumption) (Ci.to (m_passes (by exact hM0) hge hg2 hi) ?_)
    rintro x₁ M₁ ⟨rfl, rfl⟩
    rw [decide_eq_true h1, if_pos h1]
    first | refine wp_if_eqN (t := 49) (ck_get kk_Mo_bothOf 7 rfl) (by decide) (by omega) (fun hc11 => ?_) (fun hc11 => ?_) | refine wp_if_eq (t := 49) (ck_get kk_Mo_bothOf 7 rfl) (by decide) (fun hc11 => ?_) (fun hc11 => ?_)
    · exact absurd hc11 (by decide)
    · refine wp_aload_n rfl (ck_get kk_Mo_bothOf 8 rfl) ?_
      refine wp_iload_n rfl (ck_get kk_Mo_bothOf 9 rfl) ?_
      first | refine wp_if_eqN (t := 27) (ck_get kk_Mo_bothOf 10 rfl) (by decide) (by omega) (fun hc16 => ?_) (fun hc16 => ?_) | refine wp_if_eq (t := 27) (ck_get kk_Mo_bothOf 10 rfl) (by decide) (fun hc16 => ?_) (fun hc16 => ?_)
      · exact absurd hc16 (by decide)
      · refine wp_iload_n rfl (ck_get kk_Mo_bothOf 11 rfl) ?_
        first | refine wp_if_eqN (t := 27) (ck_get kk_Mo_bothOf 12 rfl) (by decide) (by omega) (fun hc20 => ?_) (fun hc20 => ?_) | refine wp_if_eq (t := 27) (ck_get kk_Mo_bothOf 12 rfl) (by decide) (fun hc20 => ?_) (fun hc20 => ?_)
        · exact absurd hc20 (by decide)
        · refine wp_iconst (v := nI 1) (by decide) (ck_get kk_Mo_bothOf 13 rfl) ?_
          refine wp_goto (t := 28) (ck_get kk_Mo_bothOf 14 rfl) (by decide) ?_
          refine wp_cV1i (ck_get kk_Mo_bothOf 16 rfl) ml_Mo_339 (by omega) (Nat.le_of_ble_eq_true rfl) (by assumption) (Ci.to (hT) ?_)
          rintro x₂ M₂ ⟨rfl, rfl⟩
          refine wp_istore_n (ck_get kk_Mo_bothOf 17 rfl) (by decide) rfl ?_
          refine wp_iload_n rfl (ck_get kk_Mo_bothOf 18 rfl) ?_
          first | refine wp_if_eqN (t := 44) (ck_get kk_Mo_bothOf 19 rfl) (by decide) (by omega) (fun hc33 => ?_) (fun hc33 => ?_) | refine wp_if_eq (t := 44) (ck_get kk_Mo_bothOf 19 rfl) (by decide) (fun hc33 => ?_) (fun hc33 => ?_)
          · exact absurd hc33 (by decide)
          · refine wp_iload_n rfl (ck_get kk_Mo_bothOf 20 rfl) ?_
            first | refine wp_if_eqN (t := 44) (ck_get kk_Mo_bothOf 21 rfl) (by decide) (by omega) (fun hc37 => ?_) (fun hc37 => ?_) | refine wp_if_eq (t := 44) (ck_get kk_Mo_bothOf 21 rfl) (by decide) (fun hc37 => ?_) (fun hc37 => ?_)
            · refine wp_iconst (v := nI 0) (by decide) (ck_get kk_Mo_bothOf 24 rfl) ?_
              refine wp_istore_n (ck_get kk_Mo_bothOf 25 rfl) (by decide) rfl ?_
              refine wp_goto (t := 6) (ck_get kk_Mo_bothOf 26 rfl) (by decide) ?_
              exact hR _
            · exact absurd rfl hc37
  · skip
    refine wp_aload_n rfl (ck_get kk_Mo_bothOf 4 rfl) ?_
    refine wp_iconst (v := nI 5) (by decide) (ck_get kk_Mo_bothOf 5 rfl) ?_
    refine wp_cV1i (ck_get kk_Mo_bothOf 6 rfl) ml_Mo_318 (by omega) (Nat.le_of_ble_eq_true rfl) (by assumption) (Ci.to (m_passes (by exact hM0) hge hg2 hi) ?_)
    rintro x₁ M₁ ⟨rfl, rfl⟩
    rw [decide_eq_true h1, if_pos h1]
    first | refine wp_if_eqN (t := 49) (ck_get kk_Mo_bothOf 7 rfl) (by decide) (by omega) (fun hc11 => ?_) (fun hc11 => ?_) | refine wp_if_eq (t := 49) (ck_get kk_Mo_bothOf 7 rfl) (by decide) (fun hc11 => ?_) (fun hc11 => ?_)
    · exact absurd hc11 (by decide)
    · refine wp_aload_n rfl (ck_get kk_Mo_bothOf 8 rfl) ?_
      refine wp_iload_n rfl (ck_get kk_Mo_bothOf 9 rfl) ?_
      first | refine wp_if_eqN (t := 27) (ck_get kk_Mo_bothOf 10 rfl) (by decide) (by omega) (fun hc16 => ?_) (fun hc16 => ?_) | refine wp_if_eq (t := 27) (ck_get kk_Mo_bothOf 10 rfl) (by decide) (fun hc16 => ?_) (fun hc16 => ?_)
      · exact absurd hc16 (by decide)
      · refine wp_iload_n rfl (ck_get kk_Mo_bothOf 11 rfl) ?_
        first | refine wp_if_eqN (t := 27) (ck_get kk_Mo_bothOf 12 rfl) (by decide) (by omega) (fun hc20 => ?_) (fun hc20 => ?_) | refine wp_if_eq (t := 27) (ck_get kk_Mo_bothOf 12 rfl) (by decide) (fun hc20 => ?_) (fun hc20 => ?_)
        · exact absurd hc20 (by decide)
        · refine wp_iconst (v := nI 1) (by decide) (ck_get kk_Mo_bothOf 13 rfl) ?_
          refine wp_goto (t := 28) (ck_get kk_Mo_bothOf 14 rfl) (by decide) ?_
          refine wp_cV1i (ck_get kk_Mo_bothOf 16 rfl) ml_Mo_339 (by omega) (Nat.le_of_ble_eq_true rfl) (by assumption) (Ci.to (hT) ?_)
          rintro x₂ M₂ ⟨rfl, rfl⟩
          refine wp_istore_n (ck_get kk_Mo_bothOf 17 rfl) (by decide) rfl ?_
          refine wp_iload_n rfl (ck_get kk_Mo_bothOf 18 rfl) ?_
          first | refine wp_if_eqN (t := 44) (ck_get kk_Mo_bothOf 19 rfl) (by decide) (by omega) (fun hc33 => ?_) (fun hc33 => ?_) | refine wp_if_eq (t := 44) (ck_get kk_Mo_bothOf 19 rfl) (by decide) (fun hc33 => ?_) (fun hc33 => ?_)
          · exact absurd hc33 (by decide)
          · refine wp_iload_n rfl (ck_get kk_Mo_bothOf 20 rfl) ?_
            first | refine wp_if_eqN (t := 44) (ck_get kk_Mo_bothOf 21 rfl) (by decide) (by omega) (fun hc37 => ?_) (fun hc37 => ?_) | refine wp_if_eq (t := 44) (ck_get kk_Mo_bothOf 21 rfl) (by decide) (fun hc37 => ?_) (fun hc37 => ?_)
            · exact absurd hc37 (by decide)
            · refine wp_iconst (v := nI 1) (by decide) (ck_get kk_Mo_bothOf 22 rfl) ?_
              refine wp_goto (t := 45) (ck_get kk_Mo_bothOf 23 rfl) (by decide) ?_
              refine wp_istore_n (ck_get kk_Mo_bothOf 25 rfl) (by decide) rfl ?_
              refine wp_goto (t := 6) (ck_get kk_Mo_bothOf 26 rfl) (by decide) ?_
              exact hR _
end MQ
