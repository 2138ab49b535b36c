/-! ===== MissCurves$Parser: the words of both languages ===== -/
theorem nI_nm1 {w : Nat} (h : w < 1000) : ¬ nI w = -1 := fun e => nI_pos (n := w) (by omega) (by rw [e]; decide)
section PQ
variable {g : Gl} {M : Mem} {pa tp L : Nat} {bt : Nat → Nat}
theorem c_lawWord (hS : OutOK g) (hX : TxOK M pa tp L bt) {i lf cl : Nat} {cd : Nat → Int32} : Ci g Y_Pa_lawWord 5 [.ref pa] (cTk M pa L bt (tS bt L i) lf cl cd) (fun x M2 => x = (if isLW false (tC bt L i) = true then nI (wIx false (tC bt L i) 0) else -1) ∧ M2 = cTk M pa L bt (tS bt L i) lf cl cd) := by
  refine cw_entry 0 pf_Pa_lawWord rfl ?_
  have hS1 := hS.1
  have t0 := hX.1.1
  by_cases h0 : tC bt L i = 6 + 1
  · rw [h0]
    refine wp_aload_n rfl (ck_get kk_Pa_lawWord 0 rfl) ?_
    refine wp_ldcs (i := 6) hS1 (by decide) rfl rfl (ck_get kk_Pa_lawWord 1 rfl) ?_
    refine wp_cV1i (ck_get kk_Pa_lawWord 2 rfl) ml_Pa_56 (by omega) (Nat.le_of_ble_eq_true rfl) (by assumption) (Ci.to (c_isWordY hS hX (by decide) h0) ?_)
    rintro _ M1 ⟨rfl, eqm1⟩
    obtain rfl := eqm1.symm
    first | refine wp_if_eqN (t := 13) (ck_get kk_Pa_lawWord 3 rfl) (by decide) (by omega) (fun hc6 => ?_) (fun hc6 => ?_) | refine wp_if_eq (t := 13) (ck_get kk_Pa_lawWord 3 rfl) (by decide) (fun hc6 => ?_) (fun hc6 => ?_)
    · omega
    · refine wp_iconst (v := nI 0) (by decide) (ck_get kk_Pa_lawWord 4 rfl) ?_
      refine wp_goto (t := 79) (ck_get kk_Pa_lawWord 5 rfl) (by decide) ?_
      refine wp_ireturn (ck_get kk_Pa_lawWord 37 rfl) rfl rfl ⟨_, rfl, ?_⟩
      exact ⟨by decide, rfl⟩
  by_cases h1 : tC bt L i = 7 + 1
  · rw [h1]
    refine wp_aload_n rfl (ck_get kk_Pa_lawWord 0 rfl) ?_
    refine wp_ldcs (i := 6) hS1 (by decide) rfl rfl (ck_get kk_Pa_lawWord 1 rfl) ?_
    refine wp_cV1i (ck_get kk_Pa_lawWord 2 rfl) ml_Pa_56 (by omega) (Nat.le_of_ble_eq_true rfl) (by assumption) (Ci.to (c_isWordN hS hX (by decide) h0) ?_)
    rintro _ M1 ⟨rfl, eqm1⟩
    obtain rfl := eqm1.symm
    first | refine wp_if_eqN (t := 13) (ck_get kk_Pa_lawWord 3 rfl) (by decide) (by omega) (fun hc6 => ?_) (fun hc6 => ?_) | refine wp_if_eq (t := 13) (ck_get kk_Pa_lawWord 3 rfl) (by decide) (fun hc6 => ?_) (fun hc6 => ?_)
    · refine wp_aload_n rfl (ck_get kk_Pa_lawWord 6 rfl) ?_
      refine wp_ldcs (i := 7) hS1 (by decide) rfl rfl (ck_get kk_Pa_lawWord 7 rfl) ?_
      refine wp_cV1i (ck_get kk_Pa_lawWord 8 rfl) ml_Pa_56 (by omega) (Nat.le_of_ble_eq_true rfl) (by assumption) (Ci.to (c_isWordY hS hX (by decide) h1) ?_)
      rintro _ M1 ⟨rfl, eqm1⟩
      obtain rfl := eqm1.symm
      first | refine wp_if_eqN (t := 26) (ck_get kk_Pa_lawWord 9 rfl) (by decide) (by omega) (fun hc19 => ?_) (fun hc19 => ?_) | refine wp_if_eq (t := 26) (ck_get kk_Pa_lawWord 9 rfl) (by decide) (fun hc19 => ?_) (fun hc19 => ?_)
      · omega
      · refine wp_iconst (v := nI 1) (by decide) (ck_get kk_Pa_lawWord 10 rfl) ?_
        refine wp_goto (t := 79) (ck_get kk_Pa_lawWord 11 rfl) (by decide) ?_
        refine wp_ireturn (ck_get kk_Pa_lawWord 37 rfl) rfl rfl ⟨_, rfl, ?_⟩
        exact ⟨by decide, rfl⟩
    · omega
  by_cases h2 : tC bt L i = 8 + 1
  · rw [h2]
    refine wp_aload_n rfl (ck_get kk_Pa_lawWord 0 rfl) ?_
    refine wp_ldcs (i := 6) hS1 (by decide) rfl rfl (ck_get kk_Pa_lawWord 1 rfl) ?_
    refine wp_cV1i (ck_get kk_Pa_lawWord 2 rfl) ml_Pa_56 (by omega) (Nat.le_of_ble_eq_true rfl) (by assumption) (Ci.to (c_isWordN hS hX (by decide) h0) ?_)
    rintro _ M1 ⟨rfl, eqm1⟩
    obtain rfl := eqm1.symm
    first | refine wp_if_eqN (t := 13) (ck_get kk_Pa_lawWord 3 rfl) (by decide) (by omega) (fun hc6 => ?_) (fun hc6 => ?_) | refine wp_if_eq (t := 13) (ck_get kk_Pa_lawWord 3 rfl) (by decide) (fun hc6 => ?_) (fun hc6 => ?_)
    · refine wp_aload_n rfl (ck_get kk_Pa_lawWord 6 rfl) ?_
      refine wp_ldcs (i := 7) hS1 (by decide) rfl rfl (ck_get kk_Pa_lawWord 7 rfl) ?_
      refine wp_cV1i (ck_get kk_Pa_lawWord 8 rfl) ml_Pa_56 (by omega) (Nat.le_of_ble_eq_true rfl) (by assumption) (Ci.to (c_isWordN hS hX (by decide) h1) ?_)
      rintro _ M1 ⟨rfl, eqm1⟩
      obtain rfl := eqm1.symm
      first | refine wp_if_eqN (t := 26) (ck_get kk_Pa_lawWord 9 rfl) (by decide) (by omega) (fun hc19 => ?_) (fun hc19 => ?_) | refine wp_if_eq (t := 26) (ck_get kk_Pa_lawWord 9 rfl) (by decide) (fun hc19 => ?_) (fun hc19 => ?_)
      · refine wp_aload_n rfl (ck_get kk_Pa_lawWord 12 rfl) ?_
        refine wp_ldcs (i := 8) hS1 (by decide) rfl rfl (ck_get kk_Pa_lawWord 13 rfl) ?_
        refine wp_cV1i (ck_get kk_Pa_lawWord 14 rfl) ml_Pa_56 (by omega) (Nat.le_of_ble_eq_true rfl) (by assumption) (Ci.to (c_isWordY hS hX (by decide) h2) ?_)
        rintro _ M1 ⟨rfl, eqm1⟩
        obtain rfl := eqm1.symm
        first | refine wp_if_eqN (t := 39) (ck_get kk_Pa_lawWord 15 rfl) (by decide) (by omega) (fun hc32 => ?_) (fun hc32 => ?_) | refine wp_if_eq (t := 39) (ck_get kk_Pa_lawWord 15 rfl) (by decide) (fun hc32 => ?_) (fun hc32 => ?_)
        · omega
        · refine wp_iconst (v := nI 2) (by decide) (ck_get kk_Pa_lawWord 16 rfl) ?_
          refine wp_goto (t := 79) (ck_get kk_Pa_lawWord 17 rfl) (by decide) ?_
          refine wp_ireturn (ck_get kk_Pa_lawWord 37 rfl) rfl rfl ⟨_, rfl, ?_⟩
          exact ⟨by decide, rfl⟩
      · omega
    · omega
  by_cases h3 : tC bt L i = 9 + 1
  · rw [h3]
    refine wp_aload_n rfl (ck_get kk_Pa_lawWord 0 rfl) ?_
    refine wp_ldcs (i := 6) hS1 (by decide) rfl rfl (ck_get kk_Pa_lawWord 1 rfl) ?_
    refine wp_cV1i (ck_get kk_Pa_lawWord 2 rfl) ml_Pa_56 (by omega) (Nat.le_of_ble_eq_true rfl) (by assumption) (Ci.to (c_isWordN hS hX (by decide) h0) ?_)
    rintro _ M1 ⟨rfl, eqm1⟩
    obtain rfl := eqm1.symm
    first | refine wp_if_eqN (t := 13) (ck_get kk_Pa_lawWord 3 rfl) (by decide) (by omega) (fun hc6 => ?_) (fun hc6 => ?_) | refine wp_if_eq (t := 13) (ck_get kk_Pa_lawWord 3 rfl) (by decide) (fun hc6 => ?_) (fun hc6 => ?_)
    · refine wp_aload_n rfl (ck_get kk_Pa_lawWord 6 rfl) ?_
      refine wp_ldcs (i := 7) hS1 (by decide) rfl rfl (ck_get kk_Pa_lawWord 7 rfl) ?_
      refine wp_cV1i (ck_get kk_Pa_lawWord 8 rfl) ml_Pa_56 (by omega) (Nat.le_of_ble_eq_true rfl) (by assumption) (Ci.to (c_isWordN hS hX (by decide) h1) ?_)
      rintro _ M1 ⟨rfl, eqm1⟩
      obtain rfl := eqm1.symm
      first | refine wp_if_eqN (t := 26) (ck_get kk_Pa_lawWord 9 rfl) (by decide) (by omega) (fun hc19 => ?_) (fun hc19 => ?_) | refine wp_if_eq (t := 26) (ck_get kk_Pa_lawWord 9 rfl) (by decide) (fun hc19 => ?_) (fun hc19 => ?_)
      · refine wp_aload_n rfl (ck_get kk_Pa_lawWord 12 rfl) ?_
        refine wp_ldcs (i := 8) hS1 (by decide) rfl rfl (ck_get kk_Pa_lawWord 13 rfl) ?_
        refine wp_cV1i (ck_get kk_Pa_lawWord 14 rfl) ml_Pa_56 (by omega) (Nat.le_of_ble_eq_true rfl) (by assumption) (Ci.to (c_isWordN hS hX (by decide) h2) ?_)
        rintro _ M1 ⟨rfl, eqm1⟩
        obtain rfl := eqm1.symm
        first | refine wp_if_eqN (t := 39) (ck_get kk_Pa_lawWord 15 rfl) (by decide) (by omega) (fun hc32 => ?_) (fun hc32 => ?_) | refine wp_if_eq (t := 39) (ck_get kk_Pa_lawWord 15 rfl) (by decide) (fun hc32 => ?_) (fun hc32 => ?_)
        · refine wp_aload_n rfl (ck_get kk_Pa_lawWord 18 rfl) ?_
          refine wp_ldcs (i := 9) hS1 (by decide) rfl rfl (ck_get kk_Pa_lawWord 19 rfl) ?_
          refine wp_cV1i (ck_get kk_Pa_lawWord 20 rfl) ml_Pa_56 (by omega) (Nat.le_of_ble_eq_true rfl) (by assumption) (Ci.to (c_isWordY hS hX (by decide) h3) ?_)
          rintro _ M1 ⟨rfl, eqm1⟩
          obtain rfl := eqm1.symm
          first | refine wp_if_eqN (t := 52) (ck_get kk_Pa_lawWord 21 rfl) (by decide) (by omega) (fun hc45 => ?_) (fun hc45 => ?_) | refine wp_if_eq (t := 52) (ck_get kk_Pa_lawWord 21 rfl) (by decide) (fun hc45 => ?_) (fun hc45 => ?_)
          · omega
          · refine wp_iconst (v := nI 3) (by decide) (ck_get kk_Pa_lawWord 22 rfl) ?_
            refine wp_goto (t := 79) (ck_get kk_Pa_lawWord 23 rfl) (by decide) ?_
            refine wp_ireturn (ck_get kk_Pa_lawWord 37 rfl) rfl rfl ⟨_, rfl, ?_⟩
            exact ⟨by decide, rfl⟩
        · omega
      · omega
    · omega
  by_cases h4 : tC bt L i = 11 + 1
  · rw [h4]
    refine wp_aload_n rfl (ck_get kk_Pa_lawWord 0 rfl) ?_
    refine wp_ldcs (i := 6) hS1 (by decide) rfl rfl (ck_get kk_Pa_lawWord 1 rfl) ?_
    refine wp_cV1i (ck_get kk_Pa_lawWord 2 rfl) ml_Pa_56 (by omega) (Nat.le_of_ble_eq_true rfl) (by assumption) (Ci.to (c_isWordN hS hX (by decide) h0) ?_)
    rintro _ M1 ⟨rfl, eqm1⟩
    obtain rfl := eqm1.symm
    first | refine wp_if_eqN (t := 13) (ck_get kk_Pa_lawWord 3 rfl) (by decide) (by omega) (fun hc6 => ?_) (fun hc6 => ?_) | refine wp_if_eq (t := 13) (ck_get kk_Pa_lawWord 3 rfl) (by decide) (fun hc6 => ?_) (fun hc6 => ?_)
    · refine wp_aload_n rfl (ck_get kk_Pa_lawWord 6 rfl) ?_
      refine wp_ldcs (i := 7) hS1 (by decide) rfl rfl (ck_get kk_Pa_lawWord 7 rfl) ?_
      refine wp_cV1i (ck_get kk_Pa_lawWord 8 rfl) ml_Pa_56 (by omega) (Nat.le_of_ble_eq_true rfl) (by assumption) (Ci.to (c_isWordN hS hX (by decide) h1) ?_)
      rintro _ M1 ⟨rfl, eqm1⟩
      obtain rfl := eqm1.symm
      first | refine wp_if_eqN (t := 26) (ck_get kk_Pa_lawWord 9 rfl) (by decide) (by omega) (fun hc19 => ?_) (fun hc19 => ?_) | refine wp_if_eq (t := 26) (ck_get kk_Pa_lawWord 9 rfl) (by decide) (fun hc19 => ?_) (fun hc19 => ?_)
      · refine wp_aload_n rfl (ck_get kk_Pa_lawWord 12 rfl) ?_
        refine wp_ldcs (i := 8) hS1 (by decide) rfl rfl (ck_get kk_Pa_lawWord 13 rfl) ?_
        refine wp_cV1i (ck_get kk_Pa_lawWord 14 rfl) ml_Pa_56 (by omega) (Nat.le_of_ble_eq_true rfl) (by assumption) (Ci.to (c_isWordN hS hX (by decide) h2) ?_)
        rintro _ M1 ⟨rfl, eqm1⟩
        obtain rfl := eqm1.symm
        first | refine wp_if_eqN (t := 39) (ck_get kk_Pa_lawWord 15 rfl) (by decide) (by omega) (fun hc32 => ?_) (fun hc32 => ?_) | refine wp_if_eq (t := 39) (ck_get kk_Pa_lawWord 15 rfl) (by decide) (fun hc32 => ?_) (fun hc32 => ?_)
        · refine wp_aload_n rfl (ck_get kk_Pa_lawWord 18 rfl) ?_
          refine wp_ldcs (i := 9) hS1 (by decide) rfl rfl (ck_get kk_Pa_lawWord 19 rfl) ?_
          refine wp_cV1i (ck_get kk_Pa_lawWord 20 rfl) ml_Pa_56 (by omega) (Nat.le_of_ble_eq_true rfl) (by assumption) (Ci.to (c_isWordN hS hX (by decide) h3) ?_)
          rintro _ M1 ⟨rfl, eqm1⟩
          obtain rfl := eqm1.symm
          first | refine wp_if_eqN (t := 52) (ck_get kk_Pa_lawWord 21 rfl) (by decide) (by omega) (fun hc45 => ?_) (fun hc45 => ?_) | refine wp_if_eq (t := 52) (ck_get kk_Pa_lawWord 21 rfl) (by decide) (fun hc45 => ?_) (fun hc45 => ?_)
          · refine wp_aload_n rfl (ck_get kk_Pa_lawWord 24 rfl) ?_
            refine wp_ldcs (i := 11) hS1 (by decide) rfl rfl (ck_get kk_Pa_lawWord 25 rfl) ?_
            refine wp_cV1i (ck_get kk_Pa_lawWord 26 rfl) ml_Pa_56 (by omega) (Nat.le_of_ble_eq_true rfl) (by assumption) (Ci.to (c_isWordY hS hX (by decide) h4) ?_)
            rintro _ M1 ⟨rfl, eqm1⟩
            obtain rfl := eqm1.symm
            first | refine wp_if_eqN (t := 65) (ck_get kk_Pa_lawWord 27 rfl) (by decide) (by omega) (fun hc58 => ?_) (fun hc58 => ?_) | refine wp_if_eq (t := 65) (ck_get kk_Pa_lawWord 27 rfl) (by decide) (fun hc58 => ?_) (fun hc58 => ?_)
            · omega
            · refine wp_iconst (v := nI 4) (by decide) (ck_get kk_Pa_lawWord 28 rfl) ?_
              refine wp_goto (t := 79) (ck_get kk_Pa_lawWord 29 rfl) (by decide) ?_
              refine wp_ireturn (ck_get kk_Pa_lawWord 37 rfl) rfl rfl ⟨_, rfl, ?_⟩
              exact ⟨by decide, rfl⟩
          · omega
        · omega
      · omega
    · omega
  by_cases h5 : tC bt L i = 10 + 1
  · rw [h5]
    refine wp_aload_n rfl (ck_get kk_Pa_lawWord 0 rfl) ?_
    refine wp_ldcs (i := 6) hS1 (by decide) rfl rfl (ck_get kk_Pa_lawWord 1 rfl) ?_
    refine wp_cV1i (ck_get kk_Pa_lawWord 2 rfl) ml_Pa_56 (by omega) (Nat.le_of_ble_eq_true rfl) (by assumption) (Ci.to (c_isWordN hS hX (by decide) h0) ?_)
    rintro _ M1 ⟨rfl, eqm1⟩
    obtain rfl := eqm1.symm
    first | refine wp_if_eqN (t := 13) (ck_get kk_Pa_lawWord 3 rfl) (by decide) (by omega) (fun hc6 => ?_) (fun hc6 => ?_) | refine wp_if_eq (t := 13) (ck_get kk_Pa_lawWord 3 rfl) (by decide) (fun hc6 => ?_) (fun hc6 => ?_)
    · refine wp_aload_n rfl (ck_get kk_Pa_lawWord 6 rfl) ?_
      refine wp_ldcs (i := 7) hS1 (by decide) rfl rfl (ck_get kk_Pa_lawWord 7 rfl) ?_
      refine wp_cV1i (ck_get kk_Pa_lawWord 8 rfl) ml_Pa_56 (by omega) (Nat.le_of_ble_eq_true rfl) (by assumption) (Ci.to (c_isWordN hS hX (by decide) h1) ?_)
      rintro _ M1 ⟨rfl, eqm1⟩
      obtain rfl := eqm1.symm
      first | refine wp_if_eqN (t := 26) (ck_get kk_Pa_lawWord 9 rfl) (by decide) (by omega) (fun hc19 => ?_) (fun hc19 => ?_) | refine wp_if_eq (t := 26) (ck_get kk_Pa_lawWord 9 rfl) (by decide) (fun hc19 => ?_) (fun hc19 => ?_)
      · refine wp_aload_n rfl (ck_get kk_Pa_lawWord 12 rfl) ?_
        refine wp_ldcs (i := 8) hS1 (by decide) rfl rfl (ck_get kk_Pa_lawWord 13 rfl) ?_
        refine wp_cV1i (ck_get kk_Pa_lawWord 14 rfl) ml_Pa_56 (by omega) (Nat.le_of_ble_eq_true rfl) (by assumption) (Ci.to (c_isWordN hS hX (by decide) h2) ?_)
        rintro _ M1 ⟨rfl, eqm1⟩
        obtain rfl := eqm1.symm
        first | refine wp_if_eqN (t := 39) (ck_get kk_Pa_lawWord 15 rfl) (by decide) (by omega) (fun hc32 => ?_) (fun hc32 => ?_) | refine wp_if_eq (t := 39) (ck_get kk_Pa_lawWord 15 rfl) (by decide) (fun hc32 => ?_) (fun hc32 => ?_)
        · refine wp_aload_n rfl (ck_get kk_Pa_lawWord 18 rfl) ?_
          refine wp_ldcs (i := 9) hS1 (by decide) rfl rfl (ck_get kk_Pa_lawWord 19 rfl) ?_
          refine wp_cV1i (ck_get kk_Pa_lawWord 20 rfl) ml_Pa_56 (by omega) (Nat.le_of_ble_eq_true rfl) (by assumption) (Ci.to (c_isWordN hS hX (by decide) h3) ?_)
          rintro _ M1 ⟨rfl, eqm1⟩
          obtain rfl := eqm1.symm
          first | refine wp_if_eqN (t := 52) (ck_get kk_Pa_lawWord 21 rfl) (by decide) (by omega) (fun hc45 => ?_) (fun hc45 => ?_) | refine wp_if_eq (t := 52) (ck_get kk_Pa_lawWord 21 rfl) (by decide) (fun hc45 => ?_) (fun hc45 => ?_)
          · refine wp_aload_n rfl (ck_get kk_Pa_lawWord 24 rfl) ?_
            refine wp_ldcs (i := 11) hS1 (by decide) rfl rfl (ck_get kk_Pa_lawWord 25 rfl) ?_
            refine wp_cV1i (ck_get kk_Pa_lawWord 26 rfl) ml_Pa_56 (by omega) (Nat.le_of_ble_eq_true rfl) (by assumption) (Ci.to (c_isWordN hS hX (by decide) h4) ?_)
            rintro _ M1 ⟨rfl, eqm1⟩
            obtain rfl := eqm1.symm
            first | refine wp_if_eqN (t := 65) (ck_get kk_Pa_lawWord 27 rfl) (by decide) (by omega) (fun hc58 => ?_) (fun hc58 => ?_) | refine wp_if_eq (t := 65) (ck_get kk_Pa_lawWord 27 rfl) (by decide) (fun hc58 => ?_) (fun hc58 => ?_)
            · refine wp_aload_n rfl (ck_get kk_Pa_lawWord 30 rfl) ?_
              refine wp_ldcs (i := 10) hS1 (by decide) rfl rfl (ck_get kk_Pa_lawWord 31 rfl) ?_
              refine wp_cV1i (ck_get kk_Pa_lawWord 32 rfl) ml_Pa_56 (by omega) (Nat.le_of_ble_eq_true rfl) (by assumption) (Ci.to (c_isWordY hS hX (by decide) h5) ?_)
              rintro _ M1 ⟨rfl, eqm1⟩
              obtain rfl := eqm1.symm
              first | refine wp_if_eqN (t := 78) (ck_get kk_Pa_lawWord 33 rfl) (by decide) (by omega) (fun hc71 => ?_) (fun hc71 => ?_) | refine wp_if_eq (t := 78) (ck_get kk_Pa_lawWord 33 rfl) (by decide) (fun hc71 => ?_) (fun hc71 => ?_)
              · omega
              · refine wp_iconst (v := nI 5) (by decide) (ck_get kk_Pa_lawWord 34 rfl) ?_
                refine wp_goto (t := 79) (ck_get kk_Pa_lawWord 35 rfl) (by decide) ?_
                refine wp_ireturn (ck_get kk_Pa_lawWord 37 rfl) rfl rfl ⟨_, rfl, ?_⟩
                exact ⟨by decide, rfl⟩
            · omega
          · omega
        · omega
      · omega
    · omega
  have hno : isLW false (tC bt L i) = false := by
    rw [Bool.eq_false_iff]
    intro hq
    simp only [isLW, decide_eq_true_eq, if_true, Bool.false_eq_true, if_false] at hq
    omega
  rw [hno]
  refine wp_aload_n rfl (ck_get kk_Pa_lawWord 0 rfl) ?_
  refine wp_ldcs (i := 6) hS1 (by decide) rfl rfl (ck_get kk_Pa_lawWord 1 rfl) ?_
  refine wp_cV1i (ck_get kk_Pa_lawWord 2 rfl) ml_Pa_56 (by omega) (Nat.le_of_ble_eq_true rfl) (by assumption) (Ci.to (c_isWordN hS hX (by decide) h0) ?_)
  rintro _ M1 ⟨rfl, eqm1⟩
  obtain rfl := eqm1.symm
  first | refine wp_if_eqN (t := 13) (ck_get kk_Pa_lawWord 3 rfl) (by decide) (by omega) (fun hc6 => ?_) (fun hc6 => ?_) | refine wp_if_eq (t := 13) (ck_get kk_Pa_lawWord 3 rfl) (by decide) (fun hc6 => ?_) (fun hc6 => ?_)
  · refine wp_aload_n rfl (ck_get kk_Pa_lawWord 6 rfl) ?_
    refine wp_ldcs (i := 7) hS1 (by decide) rfl rfl (ck_get kk_Pa_lawWord 7 rfl) ?_
    refine wp_cV1i (ck_get kk_Pa_lawWord 8 rfl) ml_Pa_56 (by omega) (Nat.le_of_ble_eq_true rfl) (by assumption) (Ci.to (c_isWordN hS hX (by decide) h1) ?_)
    rintro _ M1 ⟨rfl, eqm1⟩
    obtain rfl := eqm1.symm
    first | refine wp_if_eqN (t := 26) (ck_get kk_Pa_lawWord 9 rfl) (by decide) (by omega) (fun hc19 => ?_) (fun hc19 => ?_) | refine wp_if_eq (t := 26) (ck_get kk_Pa_lawWord 9 rfl) (by decide) (fun hc19 => ?_) (fun hc19 => ?_)
    · refine wp_aload_n rfl (ck_get kk_Pa_lawWord 12 rfl) ?_
      refine wp_ldcs (i := 8) hS1 (by decide) rfl rfl (ck_get kk_Pa_lawWord 13 rfl) ?_
      refine wp_cV1i (ck_get kk_Pa_lawWord 14 rfl) ml_Pa_56 (by omega) (Nat.le_of_ble_eq_true rfl) (by assumption) (Ci.to (c_isWordN hS hX (by decide) h2) ?_)
      rintro _ M1 ⟨rfl, eqm1⟩
      obtain rfl := eqm1.symm
      first | refine wp_if_eqN (t := 39) (ck_get kk_Pa_lawWord 15 rfl) (by decide) (by omega) (fun hc32 => ?_) (fun hc32 => ?_) | refine wp_if_eq (t := 39) (ck_get kk_Pa_lawWord 15 rfl) (by decide) (fun hc32 => ?_) (fun hc32 => ?_)
      · refine wp_aload_n rfl (ck_get kk_Pa_lawWord 18 rfl) ?_
        refine wp_ldcs (i := 9) hS1 (by decide) rfl rfl (ck_get kk_Pa_lawWord 19 rfl) ?_
        refine wp_cV1i (ck_get kk_Pa_lawWord 20 rfl) ml_Pa_56 (by omega) (Nat.le_of_ble_eq_true rfl) (by assumption) (Ci.to (c_isWordN hS hX (by decide) h3) ?_)
        rintro _ M1 ⟨rfl, eqm1⟩
        obtain rfl := eqm1.symm
        first | refine wp_if_eqN (t := 52) (ck_get kk_Pa_lawWord 21 rfl) (by decide) (by omega) (fun hc45 => ?_) (fun hc45 => ?_) | refine wp_if_eq (t := 52) (ck_get kk_Pa_lawWord 21 rfl) (by decide) (fun hc45 => ?_) (fun hc45 => ?_)
        · refine wp_aload_n rfl (ck_get kk_Pa_lawWord 24 rfl) ?_
          refine wp_ldcs (i := 11) hS1 (by decide) rfl rfl (ck_get kk_Pa_lawWord 25 rfl) ?_
          refine wp_cV1i (ck_get kk_Pa_lawWord 26 rfl) ml_Pa_56 (by omega) (Nat.le_of_ble_eq_true rfl) (by assumption) (Ci.to (c_isWordN hS hX (by decide) h4) ?_)
          rintro _ M1 ⟨rfl, eqm1⟩
          obtain rfl := eqm1.symm
          first | refine wp_if_eqN (t := 65) (ck_get kk_Pa_lawWord 27 rfl) (by decide) (by omega) (fun hc58 => ?_) (fun hc58 => ?_) | refine wp_if_eq (t := 65) (ck_get kk_Pa_lawWord 27 rfl) (by decide) (fun hc58 => ?_) (fun hc58 => ?_)
          · refine wp_aload_n rfl (ck_get kk_Pa_lawWord 30 rfl) ?_
            refine wp_ldcs (i := 10) hS1 (by decide) rfl rfl (ck_get kk_Pa_lawWord 31 rfl) ?_
            refine wp_cV1i (ck_get kk_Pa_lawWord 32 rfl) ml_Pa_56 (by omega) (Nat.le_of_ble_eq_true rfl) (by assumption) (Ci.to (c_isWordN hS hX (by decide) h5) ?_)
            rintro _ M1 ⟨rfl, eqm1⟩
            obtain rfl := eqm1.symm
            first | refine wp_if_eqN (t := 78) (ck_get kk_Pa_lawWord 33 rfl) (by decide) (by omega) (fun hc71 => ?_) (fun hc71 => ?_) | refine wp_if_eq (t := 78) (ck_get kk_Pa_lawWord 33 rfl) (by decide) (fun hc71 => ?_) (fun hc71 => ?_)
            · refine wp_iconst (v := (-1)) (by decide) (ck_get kk_Pa_lawWord 36 rfl) ?_
              refine wp_ireturn (ck_get kk_Pa_lawWord 37 rfl) rfl rfl ⟨_, rfl, ?_⟩
              exact ⟨rfl, rfl⟩
            · omega
          · omega
        · omega
      · omega
    · omega
  · omega
theorem c_orderWord (hS : OutOK g) (hX : TxOK M pa tp L bt) {i lf cl : Nat} {cd : Nat → Int32} : Ci g Y_Pa_orderWord 5 [.ref pa] (cTk M pa L bt (tS bt L i) lf cl cd) (fun x M2 => x = (if isLW true (tC bt L i) = true then nI (wIx true (tC bt L i) 0) else -1) ∧ M2 = cTk M pa L bt (tS bt L i) lf cl cd) := by
  refine cw_entry 0 pf_Pa_orderWord rfl ?_
  have hS1 := hS.1
  have t0 := hX.1.1
  by_cases h0 : tC bt L i = 11 + 1
  · rw [h0]
    refine wp_aload_n rfl (ck_get kk_Pa_orderWord 0 rfl) ?_
    refine wp_ldcs (i := 11) hS1 (by decide) rfl rfl (ck_get kk_Pa_orderWord 1 rfl) ?_
    refine wp_cV1i (ck_get kk_Pa_orderWord 2 rfl) ml_Pa_56 (by omega) (Nat.le_of_ble_eq_true rfl) (by assumption) (Ci.to (c_isWordY hS hX (by decide) h0) ?_)
    rintro _ M1 ⟨rfl, eqm1⟩
    obtain rfl := eqm1.symm
    first | refine wp_if_eqN (t := 13) (ck_get kk_Pa_orderWord 3 rfl) (by decide) (by omega) (fun hc6 => ?_) (fun hc6 => ?_) | refine wp_if_eq (t := 13) (ck_get kk_Pa_orderWord 3 rfl) (by decide) (fun hc6 => ?_) (fun hc6 => ?_)
    · omega
    · refine wp_iconst (v := nI 0) (by decide) (ck_get kk_Pa_orderWord 4 rfl) ?_
      refine wp_goto (t := 67) (ck_get kk_Pa_orderWord 5 rfl) (by decide) ?_
      refine wp_ireturn (ck_get kk_Pa_orderWord 31 rfl) rfl rfl ⟨_, rfl, ?_⟩
      exact ⟨by decide, rfl⟩
  by_cases h1 : tC bt L i = 12 + 1
  · rw [h1]
    refine wp_aload_n rfl (ck_get kk_Pa_orderWord 0 rfl) ?_
    refine wp_ldcs (i := 11) hS1 (by decide) rfl rfl (ck_get kk_Pa_orderWord 1 rfl) ?_
    refine wp_cV1i (ck_get kk_Pa_orderWord 2 rfl) ml_Pa_56 (by omega) (Nat.le_of_ble_eq_true rfl) (by assumption) (Ci.to (c_isWordN hS hX (by decide) h0) ?_)
    rintro _ M1 ⟨rfl, eqm1⟩
    obtain rfl := eqm1.symm
    first | refine wp_if_eqN (t := 13) (ck_get kk_Pa_orderWord 3 rfl) (by decide) (by omega) (fun hc6 => ?_) (fun hc6 => ?_) | refine wp_if_eq (t := 13) (ck_get kk_Pa_orderWord 3 rfl) (by decide) (fun hc6 => ?_) (fun hc6 => ?_)
    · refine wp_aload_n rfl (ck_get kk_Pa_orderWord 6 rfl) ?_
      refine wp_ldcs (i := 12) hS1 (by decide) rfl rfl (ck_get kk_Pa_orderWord 7 rfl) ?_
      refine wp_cV1i (ck_get kk_Pa_orderWord 8 rfl) ml_Pa_56 (by omega) (Nat.le_of_ble_eq_true rfl) (by assumption) (Ci.to (c_isWordY hS hX (by decide) h1) ?_)
      rintro _ M1 ⟨rfl, eqm1⟩
      obtain rfl := eqm1.symm
      first | refine wp_if_eqN (t := 26) (ck_get kk_Pa_orderWord 9 rfl) (by decide) (by omega) (fun hc19 => ?_) (fun hc19 => ?_) | refine wp_if_eq (t := 26) (ck_get kk_Pa_orderWord 9 rfl) (by decide) (fun hc19 => ?_) (fun hc19 => ?_)
      · omega
      · refine wp_iconst (v := nI 1) (by decide) (ck_get kk_Pa_orderWord 10 rfl) ?_
        refine wp_goto (t := 67) (ck_get kk_Pa_orderWord 11 rfl) (by decide) ?_
        refine wp_ireturn (ck_get kk_Pa_orderWord 31 rfl) rfl rfl ⟨_, rfl, ?_⟩
        exact ⟨by decide, rfl⟩
    · omega
  by_cases h2 : tC bt L i = 13 + 1
  · rw [h2]
    refine wp_aload_n rfl (ck_get kk_Pa_orderWord 0 rfl) ?_
    refine wp_ldcs (i := 11) hS1 (by decide) rfl rfl (ck_get kk_Pa_orderWord 1 rfl) ?_
    refine wp_cV1i (ck_get kk_Pa_orderWord 2 rfl) ml_Pa_56 (by omega) (Nat.le_of_ble_eq_true rfl) (by assumption) (Ci.to (c_isWordN hS hX (by decide) h0) ?_)
    rintro _ M1 ⟨rfl, eqm1⟩
    obtain rfl := eqm1.symm
    first | refine wp_if_eqN (t := 13) (ck_get kk_Pa_orderWord 3 rfl) (by decide) (by omega) (fun hc6 => ?_) (fun hc6 => ?_) | refine wp_if_eq (t := 13) (ck_get kk_Pa_orderWord 3 rfl) (by decide) (fun hc6 => ?_) (fun hc6 => ?_)
    · refine wp_aload_n rfl (ck_get kk_Pa_orderWord 6 rfl) ?_
      refine wp_ldcs (i := 12) hS1 (by decide) rfl rfl (ck_get kk_Pa_orderWord 7 rfl) ?_
      refine wp_cV1i (ck_get kk_Pa_orderWord 8 rfl) ml_Pa_56 (by omega) (Nat.le_of_ble_eq_true rfl) (by assumption) (Ci.to (c_isWordN hS hX (by decide) h1) ?_)
      rintro _ M1 ⟨rfl, eqm1⟩
      obtain rfl := eqm1.symm
      first | refine wp_if_eqN (t := 26) (ck_get kk_Pa_orderWord 9 rfl) (by decide) (by omega) (fun hc19 => ?_) (fun hc19 => ?_) | refine wp_if_eq (t := 26) (ck_get kk_Pa_orderWord 9 rfl) (by decide) (fun hc19 => ?_) (fun hc19 => ?_)
      · refine wp_aload_n rfl (ck_get kk_Pa_orderWord 12 rfl) ?_
        refine wp_ldcs (i := 13) hS1 (by decide) rfl rfl (ck_get kk_Pa_orderWord 13 rfl) ?_
        refine wp_cV1i (ck_get kk_Pa_orderWord 14 rfl) ml_Pa_56 (by omega) (Nat.le_of_ble_eq_true rfl) (by assumption) (Ci.to (c_isWordY hS hX (by decide) h2) ?_)
        rintro _ M1 ⟨rfl, eqm1⟩
        obtain rfl := eqm1.symm
        first | refine wp_if_eqN (t := 39) (ck_get kk_Pa_orderWord 15 rfl) (by decide) (by omega) (fun hc32 => ?_) (fun hc32 => ?_) | refine wp_if_eq (t := 39) (ck_get kk_Pa_orderWord 15 rfl) (by decide) (fun hc32 => ?_) (fun hc32 => ?_)
        · omega
        · refine wp_iconst (v := nI 2) (by decide) (ck_get kk_Pa_orderWord 16 rfl) ?_
          refine wp_goto (t := 67) (ck_get kk_Pa_orderWord 17 rfl) (by decide) ?_
          refine wp_ireturn (ck_get kk_Pa_orderWord 31 rfl) rfl rfl ⟨_, rfl, ?_⟩
          exact ⟨by decide, rfl⟩
      · omega
    · omega
  by_cases h3 : tC bt L i = 14 + 1
  · rw [h3]
    refine wp_aload_n rfl (ck_get kk_Pa_orderWord 0 rfl) ?_
    refine wp_ldcs (i := 11) hS1 (by decide) rfl rfl (ck_get kk_Pa_orderWord 1 rfl) ?_
    refine wp_cV1i (ck_get kk_Pa_orderWord 2 rfl) ml_Pa_56 (by omega) (Nat.le_of_ble_eq_true rfl) (by assumption) (Ci.to (c_isWordN hS hX (by decide) h0) ?_)
    rintro _ M1 ⟨rfl, eqm1⟩
    obtain rfl := eqm1.symm
    first | refine wp_if_eqN (t := 13) (ck_get kk_Pa_orderWord 3 rfl) (by decide) (by omega) (fun hc6 => ?_) (fun hc6 => ?_) | refine wp_if_eq (t := 13) (ck_get kk_Pa_orderWord 3 rfl) (by decide) (fun hc6 => ?_) (fun hc6 => ?_)
    · refine wp_aload_n rfl (ck_get kk_Pa_orderWord 6 rfl) ?_
      refine wp_ldcs (i := 12) hS1 (by decide) rfl rfl (ck_get kk_Pa_orderWord 7 rfl) ?_
      refine wp_cV1i (ck_get kk_Pa_orderWord 8 rfl) ml_Pa_56 (by omega) (Nat.le_of_ble_eq_true rfl) (by assumption) (Ci.to (c_isWordN hS hX (by decide) h1) ?_)
      rintro _ M1 ⟨rfl, eqm1⟩
      obtain rfl := eqm1.symm
      first | refine wp_if_eqN (t := 26) (ck_get kk_Pa_orderWord 9 rfl) (by decide) (by omega) (fun hc19 => ?_) (fun hc19 => ?_) | refine wp_if_eq (t := 26) (ck_get kk_Pa_orderWord 9 rfl) (by decide) (fun hc19 => ?_) (fun hc19 => ?_)
      · refine wp_aload_n rfl (ck_get kk_Pa_orderWord 12 rfl) ?_
        refine wp_ldcs (i := 13) hS1 (by decide) rfl rfl (ck_get kk_Pa_orderWord 13 rfl) ?_
        refine wp_cV1i (ck_get kk_Pa_orderWord 14 rfl) ml_Pa_56 (by omega) (Nat.le_of_ble_eq_true rfl) (by assumption) (Ci.to (c_isWordN hS hX (by decide) h2) ?_)
        rintro _ M1 ⟨rfl, eqm1⟩
        obtain rfl := eqm1.symm
        first | refine wp_if_eqN (t := 39) (ck_get kk_Pa_orderWord 15 rfl) (by decide) (by omega) (fun hc32 => ?_) (fun hc32 => ?_) | refine wp_if_eq (t := 39) (ck_get kk_Pa_orderWord 15 rfl) (by decide) (fun hc32 => ?_) (fun hc32 => ?_)
        · refine wp_aload_n rfl (ck_get kk_Pa_orderWord 18 rfl) ?_
          refine wp_ldcs (i := 14) hS1 (by decide) rfl rfl (ck_get kk_Pa_orderWord 19 rfl) ?_
          refine wp_cV1i (ck_get kk_Pa_orderWord 20 rfl) ml_Pa_56 (by omega) (Nat.le_of_ble_eq_true rfl) (by assumption) (Ci.to (c_isWordY hS hX (by decide) h3) ?_)
          rintro _ M1 ⟨rfl, eqm1⟩
          obtain rfl := eqm1.symm
          first | refine wp_if_eqN (t := 52) (ck_get kk_Pa_orderWord 21 rfl) (by decide) (by omega) (fun hc45 => ?_) (fun hc45 => ?_) | refine wp_if_eq (t := 52) (ck_get kk_Pa_orderWord 21 rfl) (by decide) (fun hc45 => ?_) (fun hc45 => ?_)
          · omega
          · refine wp_iconst (v := nI 3) (by decide) (ck_get kk_Pa_orderWord 22 rfl) ?_
            refine wp_goto (t := 67) (ck_get kk_Pa_orderWord 23 rfl) (by decide) ?_
            refine wp_ireturn (ck_get kk_Pa_orderWord 31 rfl) rfl rfl ⟨_, rfl, ?_⟩
            exact ⟨by decide, rfl⟩
        · omega
      · omega
    · omega
  by_cases h4 : tC bt L i = 15 + 1
  · rw [h4]
    refine wp_aload_n rfl (ck_get kk_Pa_orderWord 0 rfl) ?_
    refine wp_ldcs (i := 11) hS1 (by decide) rfl rfl (ck_get kk_Pa_orderWord 1 rfl) ?_
    refine wp_cV1i (ck_get kk_Pa_orderWord 2 rfl) ml_Pa_56 (by omega) (Nat.le_of_ble_eq_true rfl) (by assumption) (Ci.to (c_isWordN hS hX (by decide) h0) ?_)
    rintro _ M1 ⟨rfl, eqm1⟩
    obtain rfl := eqm1.symm
    first | refine wp_if_eqN (t := 13) (ck_get kk_Pa_orderWord 3 rfl) (by decide) (by omega) (fun hc6 => ?_) (fun hc6 => ?_) | refine wp_if_eq (t := 13) (ck_get kk_Pa_orderWord 3 rfl) (by decide) (fun hc6 => ?_) (fun hc6 => ?_)
    · refine wp_aload_n rfl (ck_get kk_Pa_orderWord 6 rfl) ?_
      refine wp_ldcs (i := 12) hS1 (by decide) rfl rfl (ck_get kk_Pa_orderWord 7 rfl) ?_
      refine wp_cV1i (ck_get kk_Pa_orderWord 8 rfl) ml_Pa_56 (by omega) (Nat.le_of_ble_eq_true rfl) (by assumption) (Ci.to (c_isWordN hS hX (by decide) h1) ?_)
      rintro _ M1 ⟨rfl, eqm1⟩
      obtain rfl := eqm1.symm
      first | refine wp_if_eqN (t := 26) (ck_get kk_Pa_orderWord 9 rfl) (by decide) (by omega) (fun hc19 => ?_) (fun hc19 => ?_) | refine wp_if_eq (t := 26) (ck_get kk_Pa_orderWord 9 rfl) (by decide) (fun hc19 => ?_) (fun hc19 => ?_)
      · refine wp_aload_n rfl (ck_get kk_Pa_orderWord 12 rfl) ?_
        refine wp_ldcs (i := 13) hS1 (by decide) rfl rfl (ck_get kk_Pa_orderWord 13 rfl) ?_
        refine wp_cV1i (ck_get kk_Pa_orderWord 14 rfl) ml_Pa_56 (by omega) (Nat.le_of_ble_eq_true rfl) (by assumption) (Ci.to (c_isWordN hS hX (by decide) h2) ?_)
        rintro _ M1 ⟨rfl, eqm1⟩
        obtain rfl := eqm1.symm
        first | refine wp_if_eqN (t := 39) (ck_get kk_Pa_orderWord 15 rfl) (by decide) (by omega) (fun hc32 => ?_) (fun hc32 => ?_) | refine wp_if_eq (t := 39) (ck_get kk_Pa_orderWord 15 rfl) (by decide) (fun hc32 => ?_) (fun hc32 => ?_)
        · refine wp_aload_n rfl (ck_get kk_Pa_orderWord 18 rfl) ?_
          refine wp_ldcs (i := 14) hS1 (by decide) rfl rfl (ck_get kk_Pa_orderWord 19 rfl) ?_
          refine wp_cV1i (ck_get kk_Pa_orderWord 20 rfl) ml_Pa_56 (by omega) (Nat.le_of_ble_eq_true rfl) (by assumption) (Ci.to (c_isWordN hS hX (by decide) h3) ?_)
          rintro _ M1 ⟨rfl, eqm1⟩
          obtain rfl := eqm1.symm
          first | refine wp_if_eqN (t := 52) (ck_get kk_Pa_orderWord 21 rfl) (by decide) (by omega) (fun hc45 => ?_) (fun hc45 => ?_) | refine wp_if_eq (t := 52) (ck_get kk_Pa_orderWord 21 rfl) (by decide) (fun hc45 => ?_) (fun hc45 => ?_)
          · refine wp_aload_n rfl (ck_get kk_Pa_orderWord 24 rfl) ?_
            refine wp_ldcs (i := 15) hS1 (by decide) rfl rfl (ck_get kk_Pa_orderWord 25 rfl) ?_
            refine wp_cV1i (ck_get kk_Pa_orderWord 26 rfl) ml_Pa_56 (by omega) (Nat.le_of_ble_eq_true rfl) (by assumption) (Ci.to (c_isWordY hS hX (by decide) h4) ?_)
            rintro _ M1 ⟨rfl, eqm1⟩
            obtain rfl := eqm1.symm
            first | refine wp_if_eqN (t := 66) (ck_get kk_Pa_orderWord 27 rfl) (by decide) (by omega) (fun hc58 => ?_) (fun hc58 => ?_) | refine wp_if_eq (t := 66) (ck_get kk_Pa_orderWord 27 rfl) (by decide) (fun hc58 => ?_) (fun hc58 => ?_)
            · omega
            · refine wp_bipush (v := nI 7) (by decide) (ck_get kk_Pa_orderWord 28 rfl) ?_
              refine wp_goto (t := 67) (ck_get kk_Pa_orderWord 29 rfl) (by decide) ?_
              refine wp_ireturn (ck_get kk_Pa_orderWord 31 rfl) rfl rfl ⟨_, rfl, ?_⟩
              exact ⟨by decide, rfl⟩
          · omega
        · omega
      · omega
    · omega
  have hno : isLW true (tC bt L i) = false := by
    rw [Bool.eq_false_iff]
    intro hq
    simp only [isLW, decide_eq_true_eq, if_true, Bool.false_eq_true, if_false] at hq
    omega
  rw [hno]
  refine wp_aload_n rfl (ck_get kk_Pa_orderWord 0 rfl) ?_
  refine wp_ldcs (i := 11) hS1 (by decide) rfl rfl (ck_get kk_Pa_orderWord 1 rfl) ?_
  refine wp_cV1i (ck_get kk_Pa_orderWord 2 rfl) ml_Pa_56 (by omega) (Nat.le_of_ble_eq_true rfl) (by assumption) (Ci.to (c_isWordN hS hX (by decide) h0) ?_)
  rintro _ M1 ⟨rfl, eqm1⟩
  obtain rfl := eqm1.symm
  first | refine wp_if_eqN (t := 13) (ck_get kk_Pa_orderWord 3 rfl) (by decide) (by omega) (fun hc6 => ?_) (fun hc6 => ?_) | refine wp_if_eq (t := 13) (ck_get kk_Pa_orderWord 3 rfl) (by decide) (fun hc6 => ?_) (fun hc6 => ?_)
  · refine wp_aload_n rfl (ck_get kk_Pa_orderWord 6 rfl) ?_
    refine wp_ldcs (i := 12) hS1 (by decide) rfl rfl (ck_get kk_Pa_orderWord 7 rfl) ?_
    refine wp_cV1i (ck_get kk_Pa_orderWord 8 rfl) ml_Pa_56 (by omega) (Nat.le_of_ble_eq_true rfl) (by assumption) (Ci.to (c_isWordN hS hX (by decide) h1) ?_)
    rintro _ M1 ⟨rfl, eqm1⟩
    obtain rfl := eqm1.symm
    first | refine wp_if_eqN (t := 26) (ck_get kk_Pa_orderWord 9 rfl) (by decide) (by omega) (fun hc19 => ?_) (fun hc19 => ?_) | refine wp_if_eq (t := 26) (ck_get kk_Pa_orderWord 9 rfl) (by decide) (fun hc19 => ?_) (fun hc19 => ?_)
    · refine wp_aload_n rfl (ck_get kk_Pa_orderWord 12 rfl) ?_
      refine wp_ldcs (i := 13) hS1 (by decide) rfl rfl (ck_get kk_Pa_orderWord 13 rfl) ?_
      refine wp_cV1i (ck_get kk_Pa_orderWord 14 rfl) ml_Pa_56 (by omega) (Nat.le_of_ble_eq_true rfl) (by assumption) (Ci.to (c_isWordN hS hX (by decide) h2) ?_)
      rintro _ M1 ⟨rfl, eqm1⟩
      obtain rfl := eqm1.symm
      first | refine wp_if_eqN (t := 39) (ck_get kk_Pa_orderWord 15 rfl) (by decide) (by omega) (fun hc32 => ?_) (fun hc32 => ?_) | refine wp_if_eq (t := 39) (ck_get kk_Pa_orderWord 15 rfl) (by decide) (fun hc32 => ?_) (fun hc32 => ?_)
      · refine wp_aload_n rfl (ck_get kk_Pa_orderWord 18 rfl) ?_
        refine wp_ldcs (i := 14) hS1 (by decide) rfl rfl (ck_get kk_Pa_orderWord 19 rfl) ?_
        refine wp_cV1i (ck_get kk_Pa_orderWord 20 rfl) ml_Pa_56 (by omega) (Nat.le_of_ble_eq_true rfl) (by assumption) (Ci.to (c_isWordN hS hX (by decide) h3) ?_)
        rintro _ M1 ⟨rfl, eqm1⟩
        obtain rfl := eqm1.symm
        first | refine wp_if_eqN (t := 52) (ck_get kk_Pa_orderWord 21 rfl) (by decide) (by omega) (fun hc45 => ?_) (fun hc45 => ?_) | refine wp_if_eq (t := 52) (ck_get kk_Pa_orderWord 21 rfl) (by decide) (fun hc45 => ?_) (fun hc45 => ?_)
        · refine wp_aload_n rfl (ck_get kk_Pa_orderWord 24 rfl) ?_
          refine wp_ldcs (i := 15) hS1 (by decide) rfl rfl (ck_get kk_Pa_orderWord 25 rfl) ?_
          refine wp_cV1i (ck_get kk_Pa_orderWord 26 rfl) ml_Pa_56 (by omega) (Nat.le_of_ble_eq_true rfl) (by assumption) (Ci.to (c_isWordN hS hX (by decide) h4) ?_)
          rintro _ M1 ⟨rfl, eqm1⟩
          obtain rfl := eqm1.symm
          first | refine wp_if_eqN (t := 66) (ck_get kk_Pa_orderWord 27 rfl) (by decide) (by omega) (fun hc58 => ?_) (fun hc58 => ?_) | refine wp_if_eq (t := 66) (ck_get kk_Pa_orderWord 27 rfl) (by decide) (fun hc58 => ?_) (fun hc58 => ?_)
          · refine wp_iconst (v := (-1)) (by decide) (ck_get kk_Pa_orderWord 30 rfl) ?_
            refine wp_ireturn (ck_get kk_Pa_orderWord 31 rfl) rfl rfl ⟨_, rfl, ?_⟩
            exact ⟨rfl, rfl⟩
          · omega
        · omega
      · omega
    · omega
  · omega
end PQ
