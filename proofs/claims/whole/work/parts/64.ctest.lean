/-! ===== MissCurves$Parser: brackets, comparisons, tests ===== -/
theorem pa_no6 {tc tv : Nat → Nat} {od : Bool} {f d i lf cl j l1 : Nat} {s1 : List Int32} (hd : 0 ≤ d) (h0 : tc i = 6) (h : psr tc tv od f 4 d i lf cl = (true, j, l1, s1)) : False := by
  match f, h with
  | 0, h => exact fls_tru h
  | 1, h => rw [psr_4] at h; obtain ⟨_, _, _, e1, _⟩ := pbd_t h; exact fls_tru e1
  | 2, h => rw [psr_4] at h; obtain ⟨_, _, _, e1, _⟩ := pbd_t h; rw [psr_2] at e1; obtain ⟨_, _, _, e2, _⟩ := pbd_t e1; exact fls_tru e2
  | q + 3, h =>
    rw [psr_4] at h; obtain ⟨_, _, _, e1, _⟩ := pbd_t h; rw [psr_2] at e1; obtain ⟨_, _, _, e2, _⟩ := pbd_t e1
    rw [psr_0, h0, if_neg (by omega), if_neg (by omega), if_neg (by cases od <;> decide)] at e2
    exact fls_tru e2
section PE
variable {g : Gl} {M : Mem} {pa tp L : Nat} {bt : Nat → Nat} {od : Bool} {f : Nat}
theorem pa_brT (hS : OutOK g) (hX : TxOK M pa tp L bt) (h1 : SN g M pa L bt od Y_Pa_test 13 10 6 f) {d i lf cl : Nat} {cd : Nat → Int32} (hd : d ≤ 8) (hi : i < L) (hlf : lf ≤ 50) (hcl : cl ≤ 2 * i) (hf : 12 * (L - (i + 1)) + 6 ≤ f) : Ci g Y_Pa_bracketed (20 * (9 - d) + 6) [.ref pa, .int (nI d), .int (nI 41)] (cTk M pa L bt (tS bt L i) lf cl cd) (fun x M2 => pOK M pa L bt cl cd (if 8 ≤ d then (false, i, lf, []) else pbd (psr (tC bt L) (tV bt L) od f 10 (d + 1) (i + 1) lf cl) (fun j lf2 sg => if tC bt L j = 141 then (true, j + 1, lf2, sg) else (false, j, lf2, []))) x M2) := by
  refine cw_entry 0 pf_Pa_bracketed rfl ?_
  have hX0 := hX
  obtain ⟨⟨t0, r0, hPr, r2, t2, htp⟩, h3, hL, hbt, hb2⟩ := hX
  have p0 := hPr.1
  have hS1 := hS.1
  by_cases h8 : 8 ≤ d
  · rw [if_pos h8]
    refine wp_iload_n rfl (ck_get kk_Pa_bracketed 0 rfl) ?_
    refine wp_bipush (v := nI 8) (by decide) (ck_get kk_Pa_bracketed 1 rfl) ?_
    first | refine wp_icmp_ltN (t := 11) (ck_get kk_Pa_bracketed 2 rfl) (by decide) (by omega) (by omega) (fun hc3 => ?_) (fun hc3 => ?_) | refine wp_icmp_lt (t := 11) (ck_get kk_Pa_bracketed 2 rfl) (by decide) (fun hc3 => ?_) (fun hc3 => ?_)
    · omega
    · refine wp_aload_n rfl (ck_get kk_Pa_bracketed 3 rfl) ?_
      refine wp_cV0i (ck_get kk_Pa_bracketed 4 rfl) ml_Pa_71 (by omega) (Nat.le_of_ble_eq_true rfl) (by assumption) (Ci.to (c_failT hX0 (lf0 := lf) (cl0 := cl) (cd0 := cd) (sg := [])) ?_)
      rintro x₁ M₁ hq₁
      refine wp_ireturn (ck_get kk_Pa_bracketed 5 rfl) rfl hq₁.nar ⟨_, rfl, ?_⟩
      exact hq₁
  rw [if_neg h8]
  refine wp_iload_n rfl (ck_get kk_Pa_bracketed 0 rfl) ?_
  refine wp_bipush (v := nI 8) (by decide) (ck_get kk_Pa_bracketed 1 rfl) ?_
  first | refine wp_icmp_ltN (t := 11) (ck_get kk_Pa_bracketed 2 rfl) (by decide) (by omega) (by omega) (fun hc3 => ?_) (fun hc3 => ?_) | refine wp_icmp_lt (t := 11) (ck_get kk_Pa_bracketed 2 rfl) (by decide) (fun hc3 => ?_) (fun hc3 => ?_)
  · refine wp_aload_n rfl (ck_get kk_Pa_bracketed 6 rfl) ?_
    refine wp_cV0v (ck_get kk_Pa_bracketed 7 rfl) ml_Pa_68 (by omega) (Nat.le_of_ble_eq_true rfl) (by assumption) (Cv.to (c_advanceT hX0) ?_)
    rintro M₁ rfl
    refine wp_iload_n rfl (ck_get kk_Pa_bracketed 8 rfl) ?_
    refine wp_bipush (v := nI 41) (by decide) (ck_get kk_Pa_bracketed 9 rfl) ?_
    first | refine wp_icmp_neN (t := 34) (ck_get kk_Pa_bracketed 10 rfl) (by decide) (by omega) (by omega) (fun hc18 => ?_) (fun hc18 => ?_) | refine wp_icmp_ne (t := 34) (ck_get kk_Pa_bracketed 10 rfl) (by decide) (fun hc18 => ?_) (fun hc18 => ?_)
    · omega
    · refine wp_aload_n rfl (ck_get kk_Pa_bracketed 11 rfl) ?_
      refine wp_iload_n rfl (ck_get kk_Pa_bracketed 12 rfl) ?_
      refine wp_iconst (v := nI 1) (by decide) (ck_get kk_Pa_bracketed 13 rfl) ?_
      first | refine wp_iaddN (ck_get kk_Pa_bracketed 14 rfl) ?_ | refine wp_iadd (ck_get kk_Pa_bracketed 14 rfl) ?_
      refine wp_cV1i (ck_get kk_Pa_bracketed 15 rfl) ml_Pa_154 (by omega) (Nat.le_of_ble_eq_true rfl) (by assumption) (Ci.to (h1 (d + 1) (i + 1) lf cl cd (by omega) (by omega) hlf (by omega) hf) ?_)
      rintro x₁ M₁ hq₁
      first | refine wp_if_eqN (t := 44) (ck_get kk_Pa_bracketed 16 rfl) (by decide) (by omega) (fun hc28 => ?_) (fun hc28 => ?_) | refine wp_if_eq (t := 44) (ck_get kk_Pa_bracketed 16 rfl) (by decide) (fun hc28 => ?_) (fun hc28 => ?_)
      · refine wp_iconst (v := nI 0) (by decide) (ck_get kk_Pa_bracketed 24 rfl) ?_
        refine wp_ireturn (ck_get kk_Pa_bracketed 25 rfl) rfl rfl ⟨_, rfl, ?_⟩
        exact hq₁.no hc28
      · refine wp_goto (t := 46) (ck_get kk_Pa_bracketed 17 rfl) (by decide) ?_
        obtain ⟨j, lf2, sg, cd2, hr, rfl, hE⟩ := hq₁.t hc28
        rw [hr, pbd_y]
        by_cases hj : tC bt L j = 141
        · rw [if_pos hj]
          refine wp_aload_n rfl (ck_get kk_Pa_bracketed 26 rfl) ?_
          refine wp_iload_n rfl (ck_get kk_Pa_bracketed 27 rfl) ?_
          refine wp_cV1i (ck_get kk_Pa_bracketed 28 rfl) ml_Pa_91 (by omega) (Nat.le_of_ble_eq_true rfl) (by assumption) (Ci.to (c_isSignY hX0 (by omega) hj) ?_)
          rintro _ M1 ⟨rfl, eqm1⟩
          obtain rfl := eqm1.symm
          first | refine wp_if_neN (t := 59) (ck_get kk_Pa_bracketed 29 rfl) (by decide) (by omega) (fun hc51 => ?_) (fun hc51 => ?_) | refine wp_if_ne (t := 59) (ck_get kk_Pa_bracketed 29 rfl) (by decide) (fun hc51 => ?_) (fun hc51 => ?_)
          · refine wp_aload_n rfl (ck_get kk_Pa_bracketed 33 rfl) ?_
            refine wp_cV0v (ck_get kk_Pa_bracketed 34 rfl) ml_Pa_68 (by omega) (Nat.le_of_ble_eq_true rfl) (by assumption) (Cv.to (c_advanceT hX0) ?_)
            rintro M₁ rfl
            refine wp_iconst (v := nI 1) (by decide) (ck_get kk_Pa_bracketed 35 rfl) ?_
            refine wp_ireturn (ck_get kk_Pa_bracketed 36 rfl) rfl rfl ⟨_, rfl, ?_⟩
            exact pOK.yes hE
          · omega
        · rw [if_neg hj]
          refine wp_aload_n rfl (ck_get kk_Pa_bracketed 26 rfl) ?_
          refine wp_iload_n rfl (ck_get kk_Pa_bracketed 27 rfl) ?_
          refine wp_cV1i (ck_get kk_Pa_bracketed 28 rfl) ml_Pa_91 (by omega) (Nat.le_of_ble_eq_true rfl) (by assumption) (Ci.to (c_isSignN hX0 (by omega) hj) ?_)
          rintro _ M1 ⟨rfl, eqm1⟩
          obtain rfl := eqm1.symm
          first | refine wp_if_neN (t := 59) (ck_get kk_Pa_bracketed 29 rfl) (by decide) (by omega) (fun hc51 => ?_) (fun hc51 => ?_) | refine wp_if_ne (t := 59) (ck_get kk_Pa_bracketed 29 rfl) (by decide) (fun hc51 => ?_) (fun hc51 => ?_)
          · omega
          · refine wp_aload_n rfl (ck_get kk_Pa_bracketed 30 rfl) ?_
            refine wp_cV0i (ck_get kk_Pa_bracketed 31 rfl) ml_Pa_71 (by omega) (Nat.le_of_ble_eq_true rfl) (by assumption) (Ci.to (c_failT hX0 (lf0 := lf2) (cl0 := cl) (cd0 := cd) (sg := [])) ?_)
            rintro x₂ M₂ hq₂
            refine wp_ireturn (ck_get kk_Pa_bracketed 32 rfl) rfl hq₂.nar ⟨_, rfl, ?_⟩
            exact hq₂
  · omega
theorem pa_brS (hS : OutOK g) (hX : TxOK M pa tp L bt) (h1 : SN g M pa L bt od Y_Pa_sum 9 4 3 f) {d i lf cl : Nat} {cd : Nat → Int32} (hd : d ≤ 8) (hi : i < L) (hlf : lf ≤ 50) (hcl : cl ≤ 2 * i) (hf : 12 * (L - (i + 1)) + 3 ≤ f) : Ci g Y_Pa_bracketed (20 * (9 - d) + 6) [.ref pa, .int (nI d), .int (nI 93)] (cTk M pa L bt (tS bt L i) lf cl cd) (fun x M2 => pOK M pa L bt cl cd (if 8 ≤ d then (false, i, lf, []) else pbd (psr (tC bt L) (tV bt L) od f 4 (d + 1) (i + 1) lf cl) (fun j lf2 sg => if tC bt L j = 193 then (true, j + 1, lf2, sg) else (false, j, lf2, []))) x M2) := by
  refine cw_entry 0 pf_Pa_bracketed rfl ?_
  have hX0 := hX
  obtain ⟨⟨t0, r0, hPr, r2, t2, htp⟩, h3, hL, hbt, hb2⟩ := hX
  have p0 := hPr.1
  have hS1 := hS.1
  by_cases h8 : 8 ≤ d
  · rw [if_pos h8]
    refine wp_iload_n rfl (ck_get kk_Pa_bracketed 0 rfl) ?_
    refine wp_bipush (v := nI 8) (by decide) (ck_get kk_Pa_bracketed 1 rfl) ?_
    first | refine wp_icmp_ltN (t := 11) (ck_get kk_Pa_bracketed 2 rfl) (by decide) (by omega) (by omega) (fun hc3 => ?_) (fun hc3 => ?_) | refine wp_icmp_lt (t := 11) (ck_get kk_Pa_bracketed 2 rfl) (by decide) (fun hc3 => ?_) (fun hc3 => ?_)
    · omega
    · refine wp_aload_n rfl (ck_get kk_Pa_bracketed 3 rfl) ?_
      refine wp_cV0i (ck_get kk_Pa_bracketed 4 rfl) ml_Pa_71 (by omega) (Nat.le_of_ble_eq_true rfl) (by assumption) (Ci.to (c_failT hX0 (lf0 := lf) (cl0 := cl) (cd0 := cd) (sg := [])) ?_)
      rintro x₁ M₁ hq₁
      refine wp_ireturn (ck_get kk_Pa_bracketed 5 rfl) rfl hq₁.nar ⟨_, rfl, ?_⟩
      exact hq₁
  rw [if_neg h8]
  refine wp_iload_n rfl (ck_get kk_Pa_bracketed 0 rfl) ?_
  refine wp_bipush (v := nI 8) (by decide) (ck_get kk_Pa_bracketed 1 rfl) ?_
  first | refine wp_icmp_ltN (t := 11) (ck_get kk_Pa_bracketed 2 rfl) (by decide) (by omega) (by omega) (fun hc3 => ?_) (fun hc3 => ?_) | refine wp_icmp_lt (t := 11) (ck_get kk_Pa_bracketed 2 rfl) (by decide) (fun hc3 => ?_) (fun hc3 => ?_)
  · refine wp_aload_n rfl (ck_get kk_Pa_bracketed 6 rfl) ?_
    refine wp_cV0v (ck_get kk_Pa_bracketed 7 rfl) ml_Pa_68 (by omega) (Nat.le_of_ble_eq_true rfl) (by assumption) (Cv.to (c_advanceT hX0) ?_)
    rintro M₁ rfl
    refine wp_iload_n rfl (ck_get kk_Pa_bracketed 8 rfl) ?_
    refine wp_bipush (v := nI 41) (by decide) (ck_get kk_Pa_bracketed 9 rfl) ?_
    first | refine wp_icmp_neN (t := 34) (ck_get kk_Pa_bracketed 10 rfl) (by decide) (by omega) (by omega) (fun hc18 => ?_) (fun hc18 => ?_) | refine wp_icmp_ne (t := 34) (ck_get kk_Pa_bracketed 10 rfl) (by decide) (fun hc18 => ?_) (fun hc18 => ?_)
    · refine wp_aload_n rfl (ck_get kk_Pa_bracketed 18 rfl) ?_
      refine wp_iload_n rfl (ck_get kk_Pa_bracketed 19 rfl) ?_
      refine wp_iconst (v := nI 1) (by decide) (ck_get kk_Pa_bracketed 20 rfl) ?_
      first | refine wp_iaddN (ck_get kk_Pa_bracketed 21 rfl) ?_ | refine wp_iadd (ck_get kk_Pa_bracketed 21 rfl) ?_
      refine wp_cV1i (ck_get kk_Pa_bracketed 22 rfl) ml_Pa_161 (by omega) (Nat.le_of_ble_eq_true rfl) (by assumption) (Ci.to (h1 (d + 1) (i + 1) lf cl cd (by omega) (by omega) hlf (by omega) hf) ?_)
      rintro x₁ M₁ hq₁
      first | refine wp_if_neN (t := 46) (ck_get kk_Pa_bracketed 23 rfl) (by decide) (by omega) (fun hc41 => ?_) (fun hc41 => ?_) | refine wp_if_ne (t := 46) (ck_get kk_Pa_bracketed 23 rfl) (by decide) (fun hc41 => ?_) (fun hc41 => ?_)
      · obtain ⟨j, lf2, sg, cd2, hr, rfl, hE⟩ := hq₁.t hc41
        rw [hr, pbd_y]
        by_cases hj : tC bt L j = 193
        · rw [if_pos hj]
          refine wp_aload_n rfl (ck_get kk_Pa_bracketed 26 rfl) ?_
          refine wp_iload_n rfl (ck_get kk_Pa_bracketed 27 rfl) ?_
          refine wp_cV1i (ck_get kk_Pa_bracketed 28 rfl) ml_Pa_91 (by omega) (Nat.le_of_ble_eq_true rfl) (by assumption) (Ci.to (c_isSignY hX0 (by omega) hj) ?_)
          rintro _ M1 ⟨rfl, eqm1⟩
          obtain rfl := eqm1.symm
          first | refine wp_if_neN (t := 59) (ck_get kk_Pa_bracketed 29 rfl) (by decide) (by omega) (fun hc51 => ?_) (fun hc51 => ?_) | refine wp_if_ne (t := 59) (ck_get kk_Pa_bracketed 29 rfl) (by decide) (fun hc51 => ?_) (fun hc51 => ?_)
          · refine wp_aload_n rfl (ck_get kk_Pa_bracketed 33 rfl) ?_
            refine wp_cV0v (ck_get kk_Pa_bracketed 34 rfl) ml_Pa_68 (by omega) (Nat.le_of_ble_eq_true rfl) (by assumption) (Cv.to (c_advanceT hX0) ?_)
            rintro M₁ rfl
            refine wp_iconst (v := nI 1) (by decide) (ck_get kk_Pa_bracketed 35 rfl) ?_
            refine wp_ireturn (ck_get kk_Pa_bracketed 36 rfl) rfl rfl ⟨_, rfl, ?_⟩
            exact pOK.yes hE
          · omega
        · rw [if_neg hj]
          refine wp_aload_n rfl (ck_get kk_Pa_bracketed 26 rfl) ?_
          refine wp_iload_n rfl (ck_get kk_Pa_bracketed 27 rfl) ?_
          refine wp_cV1i (ck_get kk_Pa_bracketed 28 rfl) ml_Pa_91 (by omega) (Nat.le_of_ble_eq_true rfl) (by assumption) (Ci.to (c_isSignN hX0 (by omega) hj) ?_)
          rintro _ M1 ⟨rfl, eqm1⟩
          obtain rfl := eqm1.symm
          first | refine wp_if_neN (t := 59) (ck_get kk_Pa_bracketed 29 rfl) (by decide) (by omega) (fun hc51 => ?_) (fun hc51 => ?_) | refine wp_if_ne (t := 59) (ck_get kk_Pa_bracketed 29 rfl) (by decide) (fun hc51 => ?_) (fun hc51 => ?_)
          · omega
          · refine wp_aload_n rfl (ck_get kk_Pa_bracketed 30 rfl) ?_
            refine wp_cV0i (ck_get kk_Pa_bracketed 31 rfl) ml_Pa_71 (by omega) (Nat.le_of_ble_eq_true rfl) (by assumption) (Ci.to (c_failT hX0 (lf0 := lf2) (cl0 := cl) (cd0 := cd) (sg := [])) ?_)
            rintro x₂ M₂ hq₂
            refine wp_ireturn (ck_get kk_Pa_bracketed 32 rfl) rfl hq₂.nar ⟨_, rfl, ?_⟩
            exact hq₂
      · refine wp_iconst (v := nI 0) (by decide) (ck_get kk_Pa_bracketed 24 rfl) ?_
        refine wp_ireturn (ck_get kk_Pa_bracketed 25 rfl) rfl rfl ⟨_, rfl, ?_⟩
        exact hq₁.no hc41
    · omega
  · omega
theorem pa_cmp (hS : OutOK g) (hX : TxOK M pa tp L bt) (h1 : SN g M pa L bt od Y_Pa_sum 9 4 3 f) {d i lf cl : Nat} {cd : Nat → Int32} (hd : d ≤ 8) (hi : i ≤ L) (hlf : lf ≤ 50) (hcl : cl ≤ 2 * i) (hf : 12 * (L - i) + 3 ≤ f) : Ci g Y_Pa_comparison (20 * (9 - d) + 10) [.ref pa, .int (nI d)] (cTk M pa L bt (tS bt L i) lf cl cd) (fun x M2 => pOK M pa L bt cl cd (pbd (psr (tC bt L) (tV bt L) od f 4 d i lf cl) (fun j lf2 sg => if tC bt L j = 160 ∨ tC bt L j = 162 ∨ tC bt L j = 161 then pbd (psr (tC bt L) (tV bt L) od f 4 d (j + 1) lf2 (cl + sg.length)) (fun j2 lf3 sg2 => (true, j2, lf3, (sg ++ sg2) ++ [nI (tC bt L j - 100), nI 0])) else (false, j, lf2, []))) x M2) := by
  refine cw_entry 1 pf_Pa_comparison rfl ?_
  have hX0 := hX
  obtain ⟨⟨t0, r0, hPr, r2, t2, htp⟩, h3, hL, hbt, hb2⟩ := hX
  have p0 := hPr.1
  have hS1 := hS.1
  refine wp_aload_n rfl (ck_get kk_Pa_comparison 0 rfl) ?_
  refine wp_iload_n rfl (ck_get kk_Pa_comparison 1 rfl) ?_
  refine wp_cV1i (ck_get kk_Pa_comparison 2 rfl) ml_Pa_161 (by omega) (Nat.le_of_ble_eq_true rfl) (by assumption) (Ci.to (h1 d i lf cl cd hd hi hlf hcl hf) ?_)
  rintro x₁ M₁ hq₁
  first | refine wp_if_neN (t := 10) (ck_get kk_Pa_comparison 3 rfl) (by decide) (by omega) (fun hc5 => ?_) (fun hc5 => ?_) | refine wp_if_ne (t := 10) (ck_get kk_Pa_comparison 3 rfl) (by decide) (fun hc5 => ?_) (fun hc5 => ?_)
  · obtain ⟨j, lf2, sg, cd2, hr, rfl, hE⟩ := hq₁.t hc5
    obtain ⟨g1, g2, g3, g4, g5⟩ := psr_ok (N := L) (fun i h => tC_N h) f 4 d i lf cl j lf2 sg (by omega) hr hi hlf
    rw [show ntk 4 = 1 from rfl] at g1
    rw [show ntx 4 = 0 from rfl] at g4
    rw [hr, pbd_y]
    by_cases hs0 : tC bt L j = 100 + 60
    · have hjL := tC_N (bt := bt) (L := L) (i := j) (by omega)
      rw [if_pos (by omega)]
      have hop : tC bt L j - 100 = 60 := by omega
      refine wp_aload_n rfl (ck_get kk_Pa_comparison 6 rfl) ?_
      refine wp_bipush (v := nI 60) (by decide) (ck_get kk_Pa_comparison 7 rfl) ?_
      refine wp_cV1i (ck_get kk_Pa_comparison 8 rfl) ml_Pa_91 (by omega) (Nat.le_of_ble_eq_true rfl) (by assumption) (Ci.to (c_isSignY hX0 (by omega) hs0) ?_)
      rintro _ M1 ⟨rfl, eqm1⟩
      obtain rfl := eqm1.symm
      first | refine wp_if_neN (t := 42) (ck_get kk_Pa_comparison 9 rfl) (by decide) (by omega) (fun hc16 => ?_) (fun hc16 => ?_) | refine wp_if_ne (t := 42) (ck_get kk_Pa_comparison 9 rfl) (by decide) (fun hc16 => ?_) (fun hc16 => ?_)
      · refine wp_aload_n rfl (ck_get kk_Pa_comparison 21 rfl) ?_
        refine wp_getIv (v := nI 60) (ck_get kk_Pa_comparison 22 rfl) fl_Pa_47 (by assumption) (by rw [cS_pa]; exact congrArg nI (tC_val hs0)) ?_
        refine wp_istore_n (ck_get kk_Pa_comparison 23 rfl) (by decide) rfl ?_
        refine wp_aload_n rfl (ck_get kk_Pa_comparison 24 rfl) ?_
        refine wp_cV0v (ck_get kk_Pa_comparison 25 rfl) ml_Pa_68 (by omega) (Nat.le_of_ble_eq_true rfl) (by assumption) (Cv.to (c_advanceT hX0) ?_)
        rintro M₁ rfl
        refine wp_aload_n rfl (ck_get kk_Pa_comparison 26 rfl) ?_
        refine wp_iload_n rfl (ck_get kk_Pa_comparison 27 rfl) ?_
        refine wp_cV1i (ck_get kk_Pa_comparison 28 rfl) ml_Pa_161 (by omega) (Nat.le_of_ble_eq_true rfl) (by assumption) (Ci.to (h1 d (j + 1) lf2 (cl + sg.length) cd2 hd (by omega) g3 (by omega) (by omega)) ?_)
        rintro x₂ M₂ hq₂
        first | refine wp_if_neN (t := 61) (ck_get kk_Pa_comparison 29 rfl) (by decide) (by omega) (fun hc56 => ?_) (fun hc56 => ?_) | refine wp_if_ne (t := 61) (ck_get kk_Pa_comparison 29 rfl) (by decide) (fun hc56 => ?_) (fun hc56 => ?_)
        · obtain ⟨j2, lf3, sg2, cd3, hr2, rfl, hE2⟩ := hq₂.t hc56
          obtain ⟨q1, q2, q3, q4, q5⟩ := psr_ok (N := L) (fun i h => tC_N h) f 4 d (j + 1) lf2 (cl + sg.length) j2 lf3 sg2 (by omega) hr2 (by omega) g3
          rw [show ntk 4 = 1 from rfl] at q1
          rw [show ntx 4 = 0 from rfl] at q4
          refine wp_aload_n rfl (ck_get kk_Pa_comparison 32 rfl) ?_
          refine wp_getR (ck_get kk_Pa_comparison 33 rfl) fl_Pa_14 (by assumption) (by assumption) ?_
          refine wp_iload_n rfl (ck_get kk_Pa_comparison 34 rfl) ?_
          refine wp_iconst (v := nI 0) (by decide) (ck_get kk_Pa_comparison 35 rfl) ?_
          refine wp_cV2v (ck_get kk_Pa_comparison 36 rfl) ml_Pa_157 (by omega) (Nat.le_of_ble_eq_true rfl) (by assumption) (Cv.to (c_emit hX0 (by omega)) ?_)
          rintro M₁ rfl
          refine wp_iconst (v := nI 1) (by decide) (ck_get kk_Pa_comparison 37 rfl) ?_
          refine wp_ireturn (ck_get kk_Pa_comparison 38 rfl) rfl rfl ⟨_, rfl, ?_⟩
          rw [hr2, pbd_y, hop]
          have e1 : cl + sg.length + sg2.length + 2 = cl + ((sg ++ sg2) ++ [nI 60, nI 0]).length := by
            rw [List.length_append, List.length_append, List.length_cons, List.length_cons, List.length_nil]; omega
          rw [e1]
          exact pOK.yes ((hE.app rfl hE2).app (by rw [List.length_append, Nat.add_assoc]) Ext.two)
        · refine wp_iconst (v := nI 0) (by decide) (ck_get kk_Pa_comparison 30 rfl) ?_
          refine wp_ireturn (ck_get kk_Pa_comparison 31 rfl) rfl rfl ⟨_, rfl, ?_⟩
          exact hq₂.no hc56
      · omega
    by_cases hs1 : tC bt L j = 100 + 62
    · have hjL := tC_N (bt := bt) (L := L) (i := j) (by omega)
      rw [if_pos (by omega)]
      have hop : tC bt L j - 100 = 62 := by omega
      refine wp_aload_n rfl (ck_get kk_Pa_comparison 6 rfl) ?_
      refine wp_bipush (v := nI 60) (by decide) (ck_get kk_Pa_comparison 7 rfl) ?_
      refine wp_cV1i (ck_get kk_Pa_comparison 8 rfl) ml_Pa_91 (by omega) (Nat.le_of_ble_eq_true rfl) (by assumption) (Ci.to (c_isSignN hX0 (by omega) hs0) ?_)
      rintro _ M1 ⟨rfl, eqm1⟩
      obtain rfl := eqm1.symm
      first | refine wp_if_neN (t := 42) (ck_get kk_Pa_comparison 9 rfl) (by decide) (by omega) (fun hc16 => ?_) (fun hc16 => ?_) | refine wp_if_ne (t := 42) (ck_get kk_Pa_comparison 9 rfl) (by decide) (fun hc16 => ?_) (fun hc16 => ?_)
      · omega
      · refine wp_aload_n rfl (ck_get kk_Pa_comparison 10 rfl) ?_
        refine wp_bipush (v := nI 62) (by decide) (ck_get kk_Pa_comparison 11 rfl) ?_
        refine wp_cV1i (ck_get kk_Pa_comparison 12 rfl) ml_Pa_91 (by omega) (Nat.le_of_ble_eq_true rfl) (by assumption) (Ci.to (c_isSignY hX0 (by omega) hs1) ?_)
        rintro _ M1 ⟨rfl, eqm1⟩
        obtain rfl := eqm1.symm
        first | refine wp_if_neN (t := 42) (ck_get kk_Pa_comparison 13 rfl) (by decide) (by omega) (fun hc25 => ?_) (fun hc25 => ?_) | refine wp_if_ne (t := 42) (ck_get kk_Pa_comparison 13 rfl) (by decide) (fun hc25 => ?_) (fun hc25 => ?_)
        · refine wp_aload_n rfl (ck_get kk_Pa_comparison 21 rfl) ?_
          refine wp_getIv (v := nI 62) (ck_get kk_Pa_comparison 22 rfl) fl_Pa_47 (by assumption) (by rw [cS_pa]; exact congrArg nI (tC_val hs1)) ?_
          refine wp_istore_n (ck_get kk_Pa_comparison 23 rfl) (by decide) rfl ?_
          refine wp_aload_n rfl (ck_get kk_Pa_comparison 24 rfl) ?_
          refine wp_cV0v (ck_get kk_Pa_comparison 25 rfl) ml_Pa_68 (by omega) (Nat.le_of_ble_eq_true rfl) (by assumption) (Cv.to (c_advanceT hX0) ?_)
          rintro M₁ rfl
          refine wp_aload_n rfl (ck_get kk_Pa_comparison 26 rfl) ?_
          refine wp_iload_n rfl (ck_get kk_Pa_comparison 27 rfl) ?_
          refine wp_cV1i (ck_get kk_Pa_comparison 28 rfl) ml_Pa_161 (by omega) (Nat.le_of_ble_eq_true rfl) (by assumption) (Ci.to (h1 d (j + 1) lf2 (cl + sg.length) cd2 hd (by omega) g3 (by omega) (by omega)) ?_)
          rintro x₂ M₂ hq₂
          first | refine wp_if_neN (t := 61) (ck_get kk_Pa_comparison 29 rfl) (by decide) (by omega) (fun hc56 => ?_) (fun hc56 => ?_) | refine wp_if_ne (t := 61) (ck_get kk_Pa_comparison 29 rfl) (by decide) (fun hc56 => ?_) (fun hc56 => ?_)
          · obtain ⟨j2, lf3, sg2, cd3, hr2, rfl, hE2⟩ := hq₂.t hc56
            obtain ⟨q1, q2, q3, q4, q5⟩ := psr_ok (N := L) (fun i h => tC_N h) f 4 d (j + 1) lf2 (cl + sg.length) j2 lf3 sg2 (by omega) hr2 (by omega) g3
            rw [show ntk 4 = 1 from rfl] at q1
            rw [show ntx 4 = 0 from rfl] at q4
            refine wp_aload_n rfl (ck_get kk_Pa_comparison 32 rfl) ?_
            refine wp_getR (ck_get kk_Pa_comparison 33 rfl) fl_Pa_14 (by assumption) (by assumption) ?_
            refine wp_iload_n rfl (ck_get kk_Pa_comparison 34 rfl) ?_
            refine wp_iconst (v := nI 0) (by decide) (ck_get kk_Pa_comparison 35 rfl) ?_
            refine wp_cV2v (ck_get kk_Pa_comparison 36 rfl) ml_Pa_157 (by omega) (Nat.le_of_ble_eq_true rfl) (by assumption) (Cv.to (c_emit hX0 (by omega)) ?_)
            rintro M₁ rfl
            refine wp_iconst (v := nI 1) (by decide) (ck_get kk_Pa_comparison 37 rfl) ?_
            refine wp_ireturn (ck_get kk_Pa_comparison 38 rfl) rfl rfl ⟨_, rfl, ?_⟩
            rw [hr2, pbd_y, hop]
            have e1 : cl + sg.length + sg2.length + 2 = cl + ((sg ++ sg2) ++ [nI 62, nI 0]).length := by
              rw [List.length_append, List.length_append, List.length_cons, List.length_cons, List.length_nil]; omega
            rw [e1]
            exact pOK.yes ((hE.app rfl hE2).app (by rw [List.length_append, Nat.add_assoc]) Ext.two)
          · refine wp_iconst (v := nI 0) (by decide) (ck_get kk_Pa_comparison 30 rfl) ?_
            refine wp_ireturn (ck_get kk_Pa_comparison 31 rfl) rfl rfl ⟨_, rfl, ?_⟩
            exact hq₂.no hc56
        · omega
    by_cases hs2 : tC bt L j = 100 + 61
    · have hjL := tC_N (bt := bt) (L := L) (i := j) (by omega)
      rw [if_pos (by omega)]
      have hop : tC bt L j - 100 = 61 := by omega
      refine wp_aload_n rfl (ck_get kk_Pa_comparison 6 rfl) ?_
      refine wp_bipush (v := nI 60) (by decide) (ck_get kk_Pa_comparison 7 rfl) ?_
      refine wp_cV1i (ck_get kk_Pa_comparison 8 rfl) ml_Pa_91 (by omega) (Nat.le_of_ble_eq_true rfl) (by assumption) (Ci.to (c_isSignN hX0 (by omega) hs0) ?_)
      rintro _ M1 ⟨rfl, eqm1⟩
      obtain rfl := eqm1.symm
      first | refine wp_if_neN (t := 42) (ck_get kk_Pa_comparison 9 rfl) (by decide) (by omega) (fun hc16 => ?_) (fun hc16 => ?_) | refine wp_if_ne (t := 42) (ck_get kk_Pa_comparison 9 rfl) (by decide) (fun hc16 => ?_) (fun hc16 => ?_)
      · omega
      · refine wp_aload_n rfl (ck_get kk_Pa_comparison 10 rfl) ?_
        refine wp_bipush (v := nI 62) (by decide) (ck_get kk_Pa_comparison 11 rfl) ?_
        refine wp_cV1i (ck_get kk_Pa_comparison 12 rfl) ml_Pa_91 (by omega) (Nat.le_of_ble_eq_true rfl) (by assumption) (Ci.to (c_isSignN hX0 (by omega) hs1) ?_)
        rintro _ M1 ⟨rfl, eqm1⟩
        obtain rfl := eqm1.symm
        first | refine wp_if_neN (t := 42) (ck_get kk_Pa_comparison 13 rfl) (by decide) (by omega) (fun hc25 => ?_) (fun hc25 => ?_) | refine wp_if_ne (t := 42) (ck_get kk_Pa_comparison 13 rfl) (by decide) (fun hc25 => ?_) (fun hc25 => ?_)
        · omega
        · refine wp_aload_n rfl (ck_get kk_Pa_comparison 14 rfl) ?_
          refine wp_bipush (v := nI 61) (by decide) (ck_get kk_Pa_comparison 15 rfl) ?_
          refine wp_cV1i (ck_get kk_Pa_comparison 16 rfl) ml_Pa_91 (by omega) (Nat.le_of_ble_eq_true rfl) (by assumption) (Ci.to (c_isSignY hX0 (by omega) hs2) ?_)
          rintro _ M1 ⟨rfl, eqm1⟩
          obtain rfl := eqm1.symm
          first | refine wp_if_neN (t := 42) (ck_get kk_Pa_comparison 17 rfl) (by decide) (by omega) (fun hc34 => ?_) (fun hc34 => ?_) | refine wp_if_ne (t := 42) (ck_get kk_Pa_comparison 17 rfl) (by decide) (fun hc34 => ?_) (fun hc34 => ?_)
          · refine wp_aload_n rfl (ck_get kk_Pa_comparison 21 rfl) ?_
            refine wp_getIv (v := nI 61) (ck_get kk_Pa_comparison 22 rfl) fl_Pa_47 (by assumption) (by rw [cS_pa]; exact congrArg nI (tC_val hs2)) ?_
            refine wp_istore_n (ck_get kk_Pa_comparison 23 rfl) (by decide) rfl ?_
            refine wp_aload_n rfl (ck_get kk_Pa_comparison 24 rfl) ?_
            refine wp_cV0v (ck_get kk_Pa_comparison 25 rfl) ml_Pa_68 (by omega) (Nat.le_of_ble_eq_true rfl) (by assumption) (Cv.to (c_advanceT hX0) ?_)
            rintro M₁ rfl
            refine wp_aload_n rfl (ck_get kk_Pa_comparison 26 rfl) ?_
            refine wp_iload_n rfl (ck_get kk_Pa_comparison 27 rfl) ?_
            refine wp_cV1i (ck_get kk_Pa_comparison 28 rfl) ml_Pa_161 (by omega) (Nat.le_of_ble_eq_true rfl) (by assumption) (Ci.to (h1 d (j + 1) lf2 (cl + sg.length) cd2 hd (by omega) g3 (by omega) (by omega)) ?_)
            rintro x₂ M₂ hq₂
            first | refine wp_if_neN (t := 61) (ck_get kk_Pa_comparison 29 rfl) (by decide) (by omega) (fun hc56 => ?_) (fun hc56 => ?_) | refine wp_if_ne (t := 61) (ck_get kk_Pa_comparison 29 rfl) (by decide) (fun hc56 => ?_) (fun hc56 => ?_)
            · obtain ⟨j2, lf3, sg2, cd3, hr2, rfl, hE2⟩ := hq₂.t hc56
              obtain ⟨q1, q2, q3, q4, q5⟩ := psr_ok (N := L) (fun i h => tC_N h) f 4 d (j + 1) lf2 (cl + sg.length) j2 lf3 sg2 (by omega) hr2 (by omega) g3
              rw [show ntk 4 = 1 from rfl] at q1
              rw [show ntx 4 = 0 from rfl] at q4
              refine wp_aload_n rfl (ck_get kk_Pa_comparison 32 rfl) ?_
              refine wp_getR (ck_get kk_Pa_comparison 33 rfl) fl_Pa_14 (by assumption) (by assumption) ?_
              refine wp_iload_n rfl (ck_get kk_Pa_comparison 34 rfl) ?_
              refine wp_iconst (v := nI 0) (by decide) (ck_get kk_Pa_comparison 35 rfl) ?_
              refine wp_cV2v (ck_get kk_Pa_comparison 36 rfl) ml_Pa_157 (by omega) (Nat.le_of_ble_eq_true rfl) (by assumption) (Cv.to (c_emit hX0 (by omega)) ?_)
              rintro M₁ rfl
              refine wp_iconst (v := nI 1) (by decide) (ck_get kk_Pa_comparison 37 rfl) ?_
              refine wp_ireturn (ck_get kk_Pa_comparison 38 rfl) rfl rfl ⟨_, rfl, ?_⟩
              rw [hr2, pbd_y, hop]
              have e1 : cl + sg.length + sg2.length + 2 = cl + ((sg ++ sg2) ++ [nI 61, nI 0]).length := by
                rw [List.length_append, List.length_append, List.length_cons, List.length_cons, List.length_nil]; omega
              rw [e1]
              exact pOK.yes ((hE.app rfl hE2).app (by rw [List.length_append, Nat.add_assoc]) Ext.two)
            · refine wp_iconst (v := nI 0) (by decide) (ck_get kk_Pa_comparison 30 rfl) ?_
              refine wp_ireturn (ck_get kk_Pa_comparison 31 rfl) rfl rfl ⟨_, rfl, ?_⟩
              exact hq₂.no hc56
          · omega
    rw [if_neg (by omega)]
    refine wp_aload_n rfl (ck_get kk_Pa_comparison 6 rfl) ?_
    refine wp_bipush (v := nI 60) (by decide) (ck_get kk_Pa_comparison 7 rfl) ?_
    refine wp_cV1i (ck_get kk_Pa_comparison 8 rfl) ml_Pa_91 (by omega) (Nat.le_of_ble_eq_true rfl) (by assumption) (Ci.to (c_isSignN hX0 (by omega) hs0) ?_)
    rintro _ M1 ⟨rfl, eqm1⟩
    obtain rfl := eqm1.symm
    first | refine wp_if_neN (t := 42) (ck_get kk_Pa_comparison 9 rfl) (by decide) (by omega) (fun hc16 => ?_) (fun hc16 => ?_) | refine wp_if_ne (t := 42) (ck_get kk_Pa_comparison 9 rfl) (by decide) (fun hc16 => ?_) (fun hc16 => ?_)
    · omega
    · refine wp_aload_n rfl (ck_get kk_Pa_comparison 10 rfl) ?_
      refine wp_bipush (v := nI 62) (by decide) (ck_get kk_Pa_comparison 11 rfl) ?_
      refine wp_cV1i (ck_get kk_Pa_comparison 12 rfl) ml_Pa_91 (by omega) (Nat.le_of_ble_eq_true rfl) (by assumption) (Ci.to (c_isSignN hX0 (by omega) hs1) ?_)
      rintro _ M1 ⟨rfl, eqm1⟩
      obtain rfl := eqm1.symm
      first | refine wp_if_neN (t := 42) (ck_get kk_Pa_comparison 13 rfl) (by decide) (by omega) (fun hc25 => ?_) (fun hc25 => ?_) | refine wp_if_ne (t := 42) (ck_get kk_Pa_comparison 13 rfl) (by decide) (fun hc25 => ?_) (fun hc25 => ?_)
      · omega
      · refine wp_aload_n rfl (ck_get kk_Pa_comparison 14 rfl) ?_
        refine wp_bipush (v := nI 61) (by decide) (ck_get kk_Pa_comparison 15 rfl) ?_
        refine wp_cV1i (ck_get kk_Pa_comparison 16 rfl) ml_Pa_91 (by omega) (Nat.le_of_ble_eq_true rfl) (by assumption) (Ci.to (c_isSignN hX0 (by omega) hs2) ?_)
        rintro _ M1 ⟨rfl, eqm1⟩
        obtain rfl := eqm1.symm
        first | refine wp_if_neN (t := 42) (ck_get kk_Pa_comparison 17 rfl) (by decide) (by omega) (fun hc34 => ?_) (fun hc34 => ?_) | refine wp_if_ne (t := 42) (ck_get kk_Pa_comparison 17 rfl) (by decide) (fun hc34 => ?_) (fun hc34 => ?_)
        · omega
        · refine wp_aload_n rfl (ck_get kk_Pa_comparison 18 rfl) ?_
          refine wp_cV0i (ck_get kk_Pa_comparison 19 rfl) ml_Pa_71 (by omega) (Nat.le_of_ble_eq_true rfl) (by assumption) (Ci.to (c_failT hX0 (lf0 := lf2) (cl0 := cl) (cd0 := cd) (sg := [])) ?_)
          rintro x₂ M₂ hq₂
          refine wp_ireturn (ck_get kk_Pa_comparison 20 rfl) rfl hq₂.nar ⟨_, rfl, ?_⟩
          exact hq₂
  · refine wp_iconst (v := nI 0) (by decide) (ck_get kk_Pa_comparison 4 rfl) ?_
    refine wp_ireturn (ck_get kk_Pa_comparison 5 rfl) rfl rfl ⟨_, rfl, ?_⟩
    exact hq₁.no hc5
theorem pa_cor5 (hS : OutOK g) (hX : TxOK M pa tp L bt) (h1 : SN g M pa L bt od Y_Pa_sum 9 4 3 f) (h2 : SN g M pa L bt od Y_Pa_test 13 10 6 f) {d i lf cl : Nat} {cd : Nat → Int32} {x3 : Option Value} (hd : d ≤ 8) (hi : i ≤ L) (hlf : lf ≤ 50) (hcl : cl + 0 ≤ 2 * i) (hf : 12 * (L - i) + 3 ≤ f) : Wp g Y_Pa_plain (20 * (9 - d) + 11) 40 [some (.ref pa), some (.int (nI d)), some (.int (nI 0)), x3] [] (cTk M pa L bt (tS bt L i) lf cl cd) (fun r M2 => ∃ x, r = some (.int x) ∧ pOK M pa L bt cl cd (pbd (psc (tC bt L) (tV bt L) od f d i lf cl) (fun j lf2 sg => (true, j, lf2, sg ++ []))) x M2) := by
  have hX0 := hX
  obtain ⟨⟨t0, r0, hPr, r2, t2, htp⟩, h3, hL, hbt, hb2⟩ := hX
  have p0 := hPr.1
  have hS1 := hS.1
  have fin : ∀ (x₁ : Int32) (M₁ : Mem), pOK M pa L bt cl cd (psc (tC bt L) (tV bt L) od f d i lf cl) x₁ M₁ → (¬ x₁ = 0 → Wp g Y_Pa_plain (20 * (9 - d) + 11) 72 [some (.ref pa), some (.int (nI d)), some (.int (nI 0)), x3] [] M₁ (fun r M2 => ∃ x, r = some (.int x) ∧ pOK M pa L bt cl cd (pbd (psc (tC bt L) (tV bt L) od f d i lf cl) (fun j lf2 sg => (true, j, lf2, sg ++ []))) x M2)) := by
    intro x₁ M₁ hq₁ hx₁
    obtain ⟨j, lf2, sg, cd2, hr, rfl, hE⟩ := hq₁.t hx₁
    rw [hr, pbd_y]
    refine wp_iload_n rfl (ck_get kk_Pa_plain 37 rfl) ?_
    first | refine wp_if_eqN (t := 85) (ck_get kk_Pa_plain 38 rfl) (by decide) (by omega) (fun hc73 => ?_) (fun hc73 => ?_) | refine wp_if_eq (t := 85) (ck_get kk_Pa_plain 38 rfl) (by decide) (fun hc73 => ?_) (fun hc73 => ?_)
    · refine wp_iconst (v := nI 1) (by decide) (ck_get kk_Pa_plain 44 rfl) ?_
      refine wp_ireturn (ck_get kk_Pa_plain 45 rfl) rfl rfl ⟨_, rfl, ?_⟩
      rw [List.append_nil]
      exact pOK.yes hE
    · omega
  have bad : ∀ (x₁ : Int32) (M₁ : Mem), pOK M pa L bt cl cd (psc (tC bt L) (tV bt L) od f d i lf cl) x₁ M₁ → x₁ = 0 → pOK M pa L bt cl cd (pbd (psc (tC bt L) (tV bt L) od f d i lf cl) (fun j lf2 sg => (true, j, lf2, sg ++ []))) (nI 0) M₁ := fun x₁ M₁ h hx => h.no hx
  by_cases h0 : tC bt L i = 100 + 40
  · have hiL := tC_N (bt := bt) (L := L) (i := i) (by omega)
    have hb := pa_brT hS hX0 h2 (d := d) (i := i) (lf := lf) (cl := cl) (cd := cd) hd hiL hlf (by omega) (by omega)
    have e0 : psc (tC bt L) (tV bt L) od f d i lf cl = _ := if_pos h0
    rw [← e0] at hb
    refine wp_aload_n rfl (ck_get kk_Pa_plain 21 rfl) ?_
    refine wp_bipush (v := nI 40) (by decide) (ck_get kk_Pa_plain 22 rfl) ?_
    refine wp_cV1i (ck_get kk_Pa_plain 23 rfl) ml_Pa_91 (by omega) (Nat.le_of_ble_eq_true rfl) (by assumption) (Ci.to (c_isSignY hX0 (by omega) h0) ?_)
    rintro _ M1 ⟨rfl, eqm1⟩
    obtain rfl := eqm1.symm
    first | refine wp_if_eqN (t := 62) (ck_get kk_Pa_plain 24 rfl) (by decide) (by omega) (fun hc46 => ?_) (fun hc46 => ?_) | refine wp_if_eq (t := 62) (ck_get kk_Pa_plain 24 rfl) (by decide) (fun hc46 => ?_) (fun hc46 => ?_)
    · omega
    · refine wp_aload_n rfl (ck_get kk_Pa_plain 25 rfl) ?_
      refine wp_iload_n rfl (ck_get kk_Pa_plain 26 rfl) ?_
      refine wp_bipush (v := nI 41) (by decide) (ck_get kk_Pa_plain 27 rfl) ?_
      refine wp_cV2i (ck_get kk_Pa_plain 28 rfl) ml_Pa_179 (by omega) (Nat.le_of_ble_eq_true rfl) (by assumption) (Ci.to (hb) ?_)
      rintro x₁ M₁ hq₁
      first | refine wp_if_eqN (t := 70) (ck_get kk_Pa_plain 29 rfl) (by decide) (by omega) (fun hc56 => ?_) (fun hc56 => ?_) | refine wp_if_eq (t := 70) (ck_get kk_Pa_plain 29 rfl) (by decide) (fun hc56 => ?_) (fun hc56 => ?_)
      · refine wp_iconst (v := nI 0) (by decide) (ck_get kk_Pa_plain 35 rfl) ?_
        refine wp_ireturn (ck_get kk_Pa_plain 36 rfl) rfl rfl ⟨_, rfl, ?_⟩
        exact bad x₁ M₁ hq₁ hc56
      · refine wp_goto (t := 72) (ck_get kk_Pa_plain 30 rfl) (by decide) ?_
        exact fin x₁ M₁ hq₁ hc56
  · have hb := pa_cmp hS hX0 h1 (d := d) (i := i) (lf := lf) (cl := cl) (cd := cd) hd hi hlf (by omega) hf
    have e0 : psc (tC bt L) (tV bt L) od f d i lf cl = _ := if_neg h0
    rw [← e0] at hb
    refine wp_aload_n rfl (ck_get kk_Pa_plain 21 rfl) ?_
    refine wp_bipush (v := nI 40) (by decide) (ck_get kk_Pa_plain 22 rfl) ?_
    refine wp_cV1i (ck_get kk_Pa_plain 23 rfl) ml_Pa_91 (by omega) (Nat.le_of_ble_eq_true rfl) (by assumption) (Ci.to (c_isSignN hX0 (by omega) h0) ?_)
    rintro _ M1 ⟨rfl, eqm1⟩
    obtain rfl := eqm1.symm
    first | refine wp_if_eqN (t := 62) (ck_get kk_Pa_plain 24 rfl) (by decide) (by omega) (fun hc46 => ?_) (fun hc46 => ?_) | refine wp_if_eq (t := 62) (ck_get kk_Pa_plain 24 rfl) (by decide) (fun hc46 => ?_) (fun hc46 => ?_)
    · refine wp_aload_n rfl (ck_get kk_Pa_plain 31 rfl) ?_
      refine wp_iload_n rfl (ck_get kk_Pa_plain 32 rfl) ?_
      refine wp_cV1i (ck_get kk_Pa_plain 33 rfl) ml_Pa_183 (by omega) (Nat.le_of_ble_eq_true rfl) (by assumption) (Ci.to (hb) ?_)
      rintro x₁ M₁ hq₁
      first | refine wp_if_neN (t := 72) (ck_get kk_Pa_plain 34 rfl) (by decide) (by omega) (fun hc67 => ?_) (fun hc67 => ?_) | refine wp_if_ne (t := 72) (ck_get kk_Pa_plain 34 rfl) (by decide) (fun hc67 => ?_) (fun hc67 => ?_)
      · exact fin x₁ M₁ hq₁ hc67
      · refine wp_iconst (v := nI 0) (by decide) (ck_get kk_Pa_plain 35 rfl) ?_
        refine wp_ireturn (ck_get kk_Pa_plain 36 rfl) rfl rfl ⟨_, rfl, ?_⟩
        exact bad x₁ M₁ hq₁ hc67
    · omega
theorem pa_cor6 (hS : OutOK g) (hX : TxOK M pa tp L bt) (h1 : SN g M pa L bt od Y_Pa_sum 9 4 3 f) (h2 : SN g M pa L bt od Y_Pa_test 13 10 6 f) {d i lf cl : Nat} {cd : Nat → Int32} {x3 : Option Value} (hd : d ≤ 8) (hi : i ≤ L) (hlf : lf ≤ 50) (hcl : cl + 2 ≤ 2 * i) (hf : 12 * (L - i) + 3 ≤ f) : Wp g Y_Pa_plain (20 * (9 - d) + 11) 40 [some (.ref pa), some (.int (nI d)), some (.int (nI 1)), x3] [] (cTk M pa L bt (tS bt L i) lf cl cd) (fun r M2 => ∃ x, r = some (.int x) ∧ pOK M pa L bt cl cd (pbd (psc (tC bt L) (tV bt L) od f d i lf cl) (fun j lf2 sg => (true, j, lf2, sg ++ [nI 3, nI 0]))) x M2) := by
  have hX0 := hX
  obtain ⟨⟨t0, r0, hPr, r2, t2, htp⟩, h3, hL, hbt, hb2⟩ := hX
  have p0 := hPr.1
  have hS1 := hS.1
  have fin : ∀ (x₁ : Int32) (M₁ : Mem), pOK M pa L bt cl cd (psc (tC bt L) (tV bt L) od f d i lf cl) x₁ M₁ → (¬ x₁ = 0 → Wp g Y_Pa_plain (20 * (9 - d) + 11) 72 [some (.ref pa), some (.int (nI d)), some (.int (nI 1)), x3] [] M₁ (fun r M2 => ∃ x, r = some (.int x) ∧ pOK M pa L bt cl cd (pbd (psc (tC bt L) (tV bt L) od f d i lf cl) (fun j lf2 sg => (true, j, lf2, sg ++ [nI 3, nI 0]))) x M2)) := by
    intro x₁ M₁ hq₁ hx₁
    obtain ⟨j, lf2, sg, cd2, hr, rfl, hE⟩ := hq₁.t hx₁
    have hln : cl + sg.length + 2 ≤ 1024 := by
      have hp : psr (tC bt L) (tV bt L) od (f + 1) 6 d i lf cl = _ := psr_6
      by_cases h0 : tC bt L i = 6
      · unfold psc at hr
        rw [if_neg (by omega)] at hr
        obtain ⟨j1, l1, s1, e1, e2⟩ := pbd_t hr
        have : psr (tC bt L) (tV bt L) od f 4 d i lf cl = (true, j1, l1, s1) := e1
        exfalso
        exact pa_no6 (by omega) h0 this
      · rw [if_neg h0, hr, pbd_y] at hp
        obtain ⟨g1, g2, g3, g4, g5⟩ := psr_ok (N := L) (fun i h => tC_N h) (f + 1) 6 d i lf cl _ _ _ (by omega) hp hi hlf
        rw [show ntx 6 = 2 from rfl, List.length_append, List.length_cons, List.length_cons, List.length_nil] at g4
        omega
    rw [hr, pbd_y]
    refine wp_iload_n rfl (ck_get kk_Pa_plain 37 rfl) ?_
    first | refine wp_if_eqN (t := 85) (ck_get kk_Pa_plain 38 rfl) (by decide) (by omega) (fun hc73 => ?_) (fun hc73 => ?_) | refine wp_if_eq (t := 85) (ck_get kk_Pa_plain 38 rfl) (by decide) (fun hc73 => ?_) (fun hc73 => ?_)
    · omega
    · refine wp_aload_n rfl (ck_get kk_Pa_plain 39 rfl) ?_
      refine wp_getR (ck_get kk_Pa_plain 40 rfl) fl_Pa_14 (by assumption) (by assumption) ?_
      refine wp_iconst (v := nI 3) (by decide) (ck_get kk_Pa_plain 41 rfl) ?_
      refine wp_iconst (v := nI 0) (by decide) (ck_get kk_Pa_plain 42 rfl) ?_
      refine wp_cV2v (ck_get kk_Pa_plain 43 rfl) ml_Pa_157 (by omega) (Nat.le_of_ble_eq_true rfl) (by assumption) (Cv.to (c_emit hX0 hln) ?_)
      rintro M₁ rfl
      refine wp_iconst (v := nI 1) (by decide) (ck_get kk_Pa_plain 44 rfl) ?_
      refine wp_ireturn (ck_get kk_Pa_plain 45 rfl) rfl rfl ⟨_, rfl, ?_⟩
      have e1 : cl + sg.length + 2 = cl + (sg ++ [nI 3, nI 0]).length := by rw [List.length_append, ← Nat.add_assoc]; rfl
      rw [e1]
      exact pOK.yes (hE.app rfl Ext.two)
  have bad : ∀ (x₁ : Int32) (M₁ : Mem), pOK M pa L bt cl cd (psc (tC bt L) (tV bt L) od f d i lf cl) x₁ M₁ → x₁ = 0 → pOK M pa L bt cl cd (pbd (psc (tC bt L) (tV bt L) od f d i lf cl) (fun j lf2 sg => (true, j, lf2, sg ++ [nI 3, nI 0]))) (nI 0) M₁ := fun x₁ M₁ h hx => h.no hx
  by_cases h0 : tC bt L i = 100 + 40
  · have hiL := tC_N (bt := bt) (L := L) (i := i) (by omega)
    have hb := pa_brT hS hX0 h2 (d := d) (i := i) (lf := lf) (cl := cl) (cd := cd) hd hiL hlf (by omega) (by omega)
    have e0 : psc (tC bt L) (tV bt L) od f d i lf cl = _ := if_pos h0
    rw [← e0] at hb
    refine wp_aload_n rfl (ck_get kk_Pa_plain 21 rfl) ?_
    refine wp_bipush (v := nI 40) (by decide) (ck_get kk_Pa_plain 22 rfl) ?_
    refine wp_cV1i (ck_get kk_Pa_plain 23 rfl) ml_Pa_91 (by omega) (Nat.le_of_ble_eq_true rfl) (by assumption) (Ci.to (c_isSignY hX0 (by omega) h0) ?_)
    rintro _ M1 ⟨rfl, eqm1⟩
    obtain rfl := eqm1.symm
    first | refine wp_if_eqN (t := 62) (ck_get kk_Pa_plain 24 rfl) (by decide) (by omega) (fun hc46 => ?_) (fun hc46 => ?_) | refine wp_if_eq (t := 62) (ck_get kk_Pa_plain 24 rfl) (by decide) (fun hc46 => ?_) (fun hc46 => ?_)
    · omega
    · refine wp_aload_n rfl (ck_get kk_Pa_plain 25 rfl) ?_
      refine wp_iload_n rfl (ck_get kk_Pa_plain 26 rfl) ?_
      refine wp_bipush (v := nI 41) (by decide) (ck_get kk_Pa_plain 27 rfl) ?_
      refine wp_cV2i (ck_get kk_Pa_plain 28 rfl) ml_Pa_179 (by omega) (Nat.le_of_ble_eq_true rfl) (by assumption) (Ci.to (hb) ?_)
      rintro x₁ M₁ hq₁
      first | refine wp_if_eqN (t := 70) (ck_get kk_Pa_plain 29 rfl) (by decide) (by omega) (fun hc56 => ?_) (fun hc56 => ?_) | refine wp_if_eq (t := 70) (ck_get kk_Pa_plain 29 rfl) (by decide) (fun hc56 => ?_) (fun hc56 => ?_)
      · refine wp_iconst (v := nI 0) (by decide) (ck_get kk_Pa_plain 35 rfl) ?_
        refine wp_ireturn (ck_get kk_Pa_plain 36 rfl) rfl rfl ⟨_, rfl, ?_⟩
        exact bad x₁ M₁ hq₁ hc56
      · refine wp_goto (t := 72) (ck_get kk_Pa_plain 30 rfl) (by decide) ?_
        exact fin x₁ M₁ hq₁ hc56
  · have hb := pa_cmp hS hX0 h1 (d := d) (i := i) (lf := lf) (cl := cl) (cd := cd) hd hi hlf (by omega) hf
    have e0 : psc (tC bt L) (tV bt L) od f d i lf cl = _ := if_neg h0
    rw [← e0] at hb
    refine wp_aload_n rfl (ck_get kk_Pa_plain 21 rfl) ?_
    refine wp_bipush (v := nI 40) (by decide) (ck_get kk_Pa_plain 22 rfl) ?_
    refine wp_cV1i (ck_get kk_Pa_plain 23 rfl) ml_Pa_91 (by omega) (Nat.le_of_ble_eq_true rfl) (by assumption) (Ci.to (c_isSignN hX0 (by omega) h0) ?_)
    rintro _ M1 ⟨rfl, eqm1⟩
    obtain rfl := eqm1.symm
    first | refine wp_if_eqN (t := 62) (ck_get kk_Pa_plain 24 rfl) (by decide) (by omega) (fun hc46 => ?_) (fun hc46 => ?_) | refine wp_if_eq (t := 62) (ck_get kk_Pa_plain 24 rfl) (by decide) (fun hc46 => ?_) (fun hc46 => ?_)
    · refine wp_aload_n rfl (ck_get kk_Pa_plain 31 rfl) ?_
      refine wp_iload_n rfl (ck_get kk_Pa_plain 32 rfl) ?_
      refine wp_cV1i (ck_get kk_Pa_plain 33 rfl) ml_Pa_183 (by omega) (Nat.le_of_ble_eq_true rfl) (by assumption) (Ci.to (hb) ?_)
      rintro x₁ M₁ hq₁
      first | refine wp_if_neN (t := 72) (ck_get kk_Pa_plain 34 rfl) (by decide) (by omega) (fun hc67 => ?_) (fun hc67 => ?_) | refine wp_if_ne (t := 72) (ck_get kk_Pa_plain 34 rfl) (by decide) (fun hc67 => ?_) (fun hc67 => ?_)
      · exact fin x₁ M₁ hq₁ hc67
      · refine wp_iconst (v := nI 0) (by decide) (ck_get kk_Pa_plain 35 rfl) ?_
        refine wp_ireturn (ck_get kk_Pa_plain 36 rfl) rfl rfl ⟨_, rfl, ?_⟩
        exact bad x₁ M₁ hq₁ hc67
    · omega
/-- the loop over "not": turned or not -/
def SP (g : Gl) (M : Mem) (pa L : Nat) (bt : Nat → Nat) (od : Bool) (f : Nat) : Prop := ∀ (d i lf cl : Nat) (cd : Nat → Int32) (q : Nat) (tn : Bool), d ≤ 8 → i ≤ L → lf ≤ 50 → cl + (if tn = true then 2 else 0) ≤ 2 * i → q ≤ i → 12 * (L - i) + 4 ≤ f → Wp g Y_Pa_plain (20 * (9 - d) + 11) 4 [some (.ref pa), some (.int (nI d)), some (.int (bI tn)), some (.int (nI q))] [] (cTk M pa L bt (tS bt L i) lf cl cd) (fun r M2 => ∃ x, r = some (.int x) ∧ pOK M pa L bt cl cd (psr (tC bt L) (tV bt L) od f (if tn = true then 6 else 5) d i lf cl) x M2)
theorem pa_plainL (hS : OutOK g) (hX : TxOK M pa tp L bt) (h1 : SN g M pa L bt od Y_Pa_sum 9 4 3 f) (h2 : SN g M pa L bt od Y_Pa_test 13 10 6 f) (h3 : SP g M pa L bt od f) : SP g M pa L bt od (f + 1) := by
  intro d i lf cl cd q tn hd hi hlf hcl hq hf
  have hX0 := hX
  obtain ⟨⟨t0, r0, hPr, r2, t2, htp⟩, h33, hL, hbt, hb2⟩ := hX
  have p0 := hPr.1
  have hS1 := hS.1
  by_cases h0 : tC bt L i = 5 + 1
  · have hiL := tC_N (bt := bt) (L := L) (i := i) (by omega)
    cases tn with
    | false =>
      have e0 : psr (tC bt L) (tV bt L) od (f + 1) (if (false : Bool) = true then 6 else 5) d i lf cl = psr (tC bt L) (tV bt L) od f 6 d (i + 1) lf cl := if_pos h0
      rw [e0]
      have hcl2 : cl + 0 ≤ 2 * i := hcl
      refine wp_iload_n rfl (ck_get kk_Pa_plain 4 rfl) ?_
      refine wp_sipush (v := nI 400) (by decide) (ck_get kk_Pa_plain 5 rfl) ?_
      first | refine wp_icmp_geN (t := 40) (ck_get kk_Pa_plain 6 rfl) (by decide) (by omega) (by omega) (fun hc8 => ?_) (fun hc8 => ?_) | refine wp_icmp_ge (t := 40) (ck_get kk_Pa_plain 6 rfl) (by decide) (fun hc8 => ?_) (fun hc8 => ?_)
      · omega
      · refine wp_aload_n rfl (ck_get kk_Pa_plain 7 rfl) ?_
        refine wp_ldcs (i := 5) hS1 (by decide) rfl rfl (ck_get kk_Pa_plain 8 rfl) ?_
        refine wp_cV1i (ck_get kk_Pa_plain 9 rfl) ml_Pa_56 (by omega) (Nat.le_of_ble_eq_true rfl) (by assumption) (Ci.to (c_isWordY hS hX0 (by decide) h0) ?_)
        rintro _ M1 ⟨rfl, eqm1⟩
        obtain rfl := eqm1.symm
        first | refine wp_if_eqN (t := 40) (ck_get kk_Pa_plain 10 rfl) (by decide) (by omega) (fun hc17 => ?_) (fun hc17 => ?_) | refine wp_if_eq (t := 40) (ck_get kk_Pa_plain 10 rfl) (by decide) (fun hc17 => ?_) (fun hc17 => ?_)
        · omega
        · refine wp_iload_n rfl (ck_get kk_Pa_plain 11 rfl) ?_
          first | refine wp_if_neN (t := 28) (ck_get kk_Pa_plain 12 rfl) (by decide) (by omega) (fun hc21 => ?_) (fun hc21 => ?_) | refine wp_if_ne (t := 28) (ck_get kk_Pa_plain 12 rfl) (by decide) (fun hc21 => ?_) (fun hc21 => ?_)
          · exact absurd rfl hc21
          · refine wp_iconst (v := nI 1) (by decide) (ck_get kk_Pa_plain 13 rfl) ?_
            refine wp_goto (t := 29) (ck_get kk_Pa_plain 14 rfl) (by decide) ?_
            refine wp_istore_n (ck_get kk_Pa_plain 16 rfl) (by decide) rfl ?_
            refine wp_aload_n rfl (ck_get kk_Pa_plain 17 rfl) ?_
            refine wp_cV0v (ck_get kk_Pa_plain 18 rfl) ml_Pa_68 (by omega) (Nat.le_of_ble_eq_true rfl) (by assumption) (Cv.to (c_advanceT hX0) ?_)
            rintro M₁ rfl
            first | refine wp_iincN (ck_get kk_Pa_plain 19 rfl) rfl (by decide) rfl ?_ | refine wp_iinc (ck_get kk_Pa_plain 19 rfl) rfl (by decide) rfl ?_
            refine wp_goto (t := 4) (ck_get kk_Pa_plain 20 rfl) (by decide) ?_
            exact h3 d (i + 1) lf cl cd (q + 1) true hd (by omega) hlf (show cl + 2 ≤ 2 * (i + 1) by omega) (by omega) (by omega)
    | true =>
      have e0 : psr (tC bt L) (tV bt L) od (f + 1) (if (true : Bool) = true then 6 else 5) d i lf cl = psr (tC bt L) (tV bt L) od f 5 d (i + 1) lf cl := if_pos h0
      rw [e0]
      have hcl2 : cl + 2 ≤ 2 * i := hcl
      refine wp_iload_n rfl (ck_get kk_Pa_plain 4 rfl) ?_
      refine wp_sipush (v := nI 400) (by decide) (ck_get kk_Pa_plain 5 rfl) ?_
      first | refine wp_icmp_geN (t := 40) (ck_get kk_Pa_plain 6 rfl) (by decide) (by omega) (by omega) (fun hc8 => ?_) (fun hc8 => ?_) | refine wp_icmp_ge (t := 40) (ck_get kk_Pa_plain 6 rfl) (by decide) (fun hc8 => ?_) (fun hc8 => ?_)
      · omega
      · refine wp_aload_n rfl (ck_get kk_Pa_plain 7 rfl) ?_
        refine wp_ldcs (i := 5) hS1 (by decide) rfl rfl (ck_get kk_Pa_plain 8 rfl) ?_
        refine wp_cV1i (ck_get kk_Pa_plain 9 rfl) ml_Pa_56 (by omega) (Nat.le_of_ble_eq_true rfl) (by assumption) (Ci.to (c_isWordY hS hX0 (by decide) h0) ?_)
        rintro _ M1 ⟨rfl, eqm1⟩
        obtain rfl := eqm1.symm
        first | refine wp_if_eqN (t := 40) (ck_get kk_Pa_plain 10 rfl) (by decide) (by omega) (fun hc17 => ?_) (fun hc17 => ?_) | refine wp_if_eq (t := 40) (ck_get kk_Pa_plain 10 rfl) (by decide) (fun hc17 => ?_) (fun hc17 => ?_)
        · omega
        · refine wp_iload_n rfl (ck_get kk_Pa_plain 11 rfl) ?_
          first | refine wp_if_neN (t := 28) (ck_get kk_Pa_plain 12 rfl) (by decide) (by omega) (fun hc21 => ?_) (fun hc21 => ?_) | refine wp_if_ne (t := 28) (ck_get kk_Pa_plain 12 rfl) (by decide) (fun hc21 => ?_) (fun hc21 => ?_)
          · refine wp_iconst (v := nI 0) (by decide) (ck_get kk_Pa_plain 15 rfl) ?_
            refine wp_istore_n (ck_get kk_Pa_plain 16 rfl) (by decide) rfl ?_
            refine wp_aload_n rfl (ck_get kk_Pa_plain 17 rfl) ?_
            refine wp_cV0v (ck_get kk_Pa_plain 18 rfl) ml_Pa_68 (by omega) (Nat.le_of_ble_eq_true rfl) (by assumption) (Cv.to (c_advanceT hX0) ?_)
            rintro M₁ rfl
            first | refine wp_iincN (ck_get kk_Pa_plain 19 rfl) rfl (by decide) rfl ?_ | refine wp_iinc (ck_get kk_Pa_plain 19 rfl) rfl (by decide) rfl ?_
            refine wp_goto (t := 4) (ck_get kk_Pa_plain 20 rfl) (by decide) ?_
            exact h3 d (i + 1) lf cl cd (q + 1) false hd (by omega) hlf (show cl + 0 ≤ 2 * (i + 1) by omega) (by omega) (by omega)
          · exact absurd hc21 (by decide)
  · cases tn with
    | false =>
      have e0 : psr (tC bt L) (tV bt L) od (f + 1) (if (false : Bool) = true then 6 else 5) d i lf cl = pbd (psc (tC bt L) (tV bt L) od f d i lf cl) (fun j lf2 sg => (true, j, lf2, sg ++ [])) := if_neg h0
      rw [e0]
      have hcl2 : cl + 0 ≤ 2 * i := hcl
      refine wp_iload_n rfl (ck_get kk_Pa_plain 4 rfl) ?_
      refine wp_sipush (v := nI 400) (by decide) (ck_get kk_Pa_plain 5 rfl) ?_
      first | refine wp_icmp_geN (t := 40) (ck_get kk_Pa_plain 6 rfl) (by decide) (by omega) (by omega) (fun hc8 => ?_) (fun hc8 => ?_) | refine wp_icmp_ge (t := 40) (ck_get kk_Pa_plain 6 rfl) (by decide) (fun hc8 => ?_) (fun hc8 => ?_)
      · exact pa_cor5 hS hX0 h1 h2 hd hi hlf hcl2 (by omega)
      · refine wp_aload_n rfl (ck_get kk_Pa_plain 7 rfl) ?_
        refine wp_ldcs (i := 5) hS1 (by decide) rfl rfl (ck_get kk_Pa_plain 8 rfl) ?_
        refine wp_cV1i (ck_get kk_Pa_plain 9 rfl) ml_Pa_56 (by omega) (Nat.le_of_ble_eq_true rfl) (by assumption) (Ci.to (c_isWordN hS hX0 (by decide) h0) ?_)
        rintro _ M1 ⟨rfl, eqm1⟩
        obtain rfl := eqm1.symm
        first | refine wp_if_eqN (t := 40) (ck_get kk_Pa_plain 10 rfl) (by decide) (by omega) (fun hc17 => ?_) (fun hc17 => ?_) | refine wp_if_eq (t := 40) (ck_get kk_Pa_plain 10 rfl) (by decide) (fun hc17 => ?_) (fun hc17 => ?_)
        · exact pa_cor5 hS hX0 h1 h2 hd hi hlf hcl2 (by omega)
        · omega
    | true =>
      have e0 : psr (tC bt L) (tV bt L) od (f + 1) (if (true : Bool) = true then 6 else 5) d i lf cl = pbd (psc (tC bt L) (tV bt L) od f d i lf cl) (fun j lf2 sg => (true, j, lf2, sg ++ [nI 3, nI 0])) := if_neg h0
      rw [e0]
      have hcl2 : cl + 2 ≤ 2 * i := hcl
      refine wp_iload_n rfl (ck_get kk_Pa_plain 4 rfl) ?_
      refine wp_sipush (v := nI 400) (by decide) (ck_get kk_Pa_plain 5 rfl) ?_
      first | refine wp_icmp_geN (t := 40) (ck_get kk_Pa_plain 6 rfl) (by decide) (by omega) (by omega) (fun hc8 => ?_) (fun hc8 => ?_) | refine wp_icmp_ge (t := 40) (ck_get kk_Pa_plain 6 rfl) (by decide) (fun hc8 => ?_) (fun hc8 => ?_)
      · exact pa_cor6 hS hX0 h1 h2 hd hi hlf hcl2 (by omega)
      · refine wp_aload_n rfl (ck_get kk_Pa_plain 7 rfl) ?_
        refine wp_ldcs (i := 5) hS1 (by decide) rfl rfl (ck_get kk_Pa_plain 8 rfl) ?_
        refine wp_cV1i (ck_get kk_Pa_plain 9 rfl) ml_Pa_56 (by omega) (Nat.le_of_ble_eq_true rfl) (by assumption) (Ci.to (c_isWordN hS hX0 (by decide) h0) ?_)
        rintro _ M1 ⟨rfl, eqm1⟩
        obtain rfl := eqm1.symm
        first | refine wp_if_eqN (t := 40) (ck_get kk_Pa_plain 10 rfl) (by decide) (by omega) (fun hc17 => ?_) (fun hc17 => ?_) | refine wp_if_eq (t := 40) (ck_get kk_Pa_plain 10 rfl) (by decide) (fun hc17 => ?_) (fun hc17 => ?_)
        · exact pa_cor6 hS hX0 h1 h2 hd hi hlf hcl2 (by omega)
        · omega
theorem pa_plain (hS : OutOK g) (hX : TxOK M pa tp L bt) (h3 : SP g M pa L bt od f) : SN g M pa L bt od Y_Pa_plain 11 5 4 f := by
  intro d i lf cl cd hd hi hlf hcl hf
  refine cw_entry 2 pf_Pa_plain rfl ?_
  refine wp_iconst (v := nI 0) (by decide) (ck_get kk_Pa_plain 0 rfl) ?_
  refine wp_istore_n (ck_get kk_Pa_plain 1 rfl) (by decide) rfl ?_
  refine wp_iconst (v := nI 0) (by decide) (ck_get kk_Pa_plain 2 rfl) ?_
  refine wp_istore_n (ck_get kk_Pa_plain 3 rfl) (by decide) rfl ?_
  exact h3 d i lf cl cd 0 false hd hi hlf (show cl + 0 ≤ 2 * i by omega) (by omega) hf
theorem pa_bothR (hS : OutOK g) (hX : TxOK M pa tp L bt) (h1 : SN g M pa L bt od Y_Pa_plain 11 5 4 f) (h2 : SR g M pa L bt od Y_Pa_both 12 7 f) : SR g M pa L bt od Y_Pa_both 12 7 (f + 1) := by
  intro d i lf cl cd q x3 hd hi hlf hcl hq hf
  have hX0 := hX
  obtain ⟨⟨t0, r0, hPr, r2, t2, htp⟩, h3, hL, hbt, hb2⟩ := hX
  have p0 := hPr.1
  have hS1 := hS.1
  rw [psr_7]
  by_cases h0 : tC bt L i = 4 + 1
  · have hiL := tC_N (bt := bt) (L := L) (i := i) (by omega)
    rw [if_pos h0]
    refine wp_iload_n rfl (ck_get kk_Pa_both 8 rfl) ?_
    refine wp_sipush (v := nI 400) (by decide) (ck_get kk_Pa_both 9 rfl) ?_
    first | refine wp_icmp_geN (t := 73) (ck_get kk_Pa_both 10 rfl) (by decide) (by omega) (by omega) (fun hc16 => ?_) (fun hc16 => ?_) | refine wp_icmp_ge (t := 73) (ck_get kk_Pa_both 10 rfl) (by decide) (fun hc16 => ?_) (fun hc16 => ?_)
    · omega
    · refine wp_aload_n rfl (ck_get kk_Pa_both 11 rfl) ?_
      refine wp_ldcs (i := 4) hS1 (by decide) rfl rfl (ck_get kk_Pa_both 12 rfl) ?_
      refine wp_cV1i (ck_get kk_Pa_both 13 rfl) ml_Pa_56 (by omega) (Nat.le_of_ble_eq_true rfl) (by assumption) (Ci.to (c_isWordY hS hX0 (by decide) h0) ?_)
      rintro _ M1 ⟨rfl, eqm1⟩
      obtain rfl := eqm1.symm
      first | refine wp_if_eqN (t := 73) (ck_get kk_Pa_both 14 rfl) (by decide) (by omega) (fun hc25 => ?_) (fun hc25 => ?_) | refine wp_if_eq (t := 73) (ck_get kk_Pa_both 14 rfl) (by decide) (fun hc25 => ?_) (fun hc25 => ?_)
      · omega
      · refine wp_aload_n rfl (ck_get kk_Pa_both 15 rfl) ?_
        refine wp_cV0v (ck_get kk_Pa_both 16 rfl) ml_Pa_68 (by omega) (Nat.le_of_ble_eq_true rfl) (by assumption) (Cv.to (c_advanceT hX0) ?_)
        rintro M₁ rfl
        refine wp_aload_n rfl (ck_get kk_Pa_both 17 rfl) ?_
        refine wp_getR (ck_get kk_Pa_both 18 rfl) fl_Pa_14 (by assumption) (by assumption) ?_
        refine wp_iconst (v := nI 5) (by decide) (ck_get kk_Pa_both 19 rfl) ?_
        refine wp_iconst (v := nI 0) (by decide) (ck_get kk_Pa_both 20 rfl) ?_
        refine wp_cV2v (ck_get kk_Pa_both 21 rfl) ml_Pa_157 (by omega) (Nat.le_of_ble_eq_true rfl) (by assumption) (Cv.to (c_emit hX0 (by omega)) ?_)
        rintro M₁ rfl
        refine wp_aload_n rfl (ck_get kk_Pa_both 22 rfl) ?_
        refine wp_getR (ck_get kk_Pa_both 23 rfl) fl_Pa_14 (by assumption) (by assumption) ?_
        refine wp_getIv (v := nI (cl + 2)) (ck_get kk_Pa_both 24 rfl) fl_Pa_78 (by assumption) (cS_8) ?_
        refine wp_istore_n (ck_get kk_Pa_both 25 rfl) (by decide) rfl ?_
        refine wp_aload_n rfl (ck_get kk_Pa_both 26 rfl) ?_
        refine wp_iload_n rfl (ck_get kk_Pa_both 27 rfl) ?_
        refine wp_cV1i (ck_get kk_Pa_both 28 rfl) ml_Pa_172 (by omega) (Nat.le_of_ble_eq_true rfl) (by assumption) (Ci.to (h1 d (i + 1) lf (cl + 2) _ hd (by omega) hlf (by omega) (by omega)) ?_)
        rintro x₁ M₁ hq₁
        first | refine wp_if_neN (t := 59) (ck_get kk_Pa_both 29 rfl) (by decide) (by omega) (fun hc54 => ?_) (fun hc54 => ?_) | refine wp_if_ne (t := 59) (ck_get kk_Pa_both 29 rfl) (by decide) (fun hc54 => ?_) (fun hc54 => ?_)
        · obtain ⟨j, lf2, sg, cd2, hr, rfl, hE⟩ := hq₁.t hc54
          obtain ⟨g1, g2, g3, g4, g5⟩ := psr_ok (N := L) (fun i h => tC_N h) f 5 d (i + 1) lf (cl + 2) j lf2 sg (by omega) hr (by omega) hlf
          rw [show ntk 5 = 1 from rfl] at g1
          rw [show ntx 5 = 0 from rfl] at g4
          refine wp_aload_n rfl (ck_get kk_Pa_both 32 rfl) ?_
          refine wp_getR (ck_get kk_Pa_both 33 rfl) fl_Pa_14 (by assumption) (by assumption) ?_
          refine wp_iload_n rfl (ck_get kk_Pa_both 34 rfl) ?_
          refine wp_cV1v (ck_get kk_Pa_both 35 rfl) ml_Pa_169 (by omega) (Nat.le_of_ble_eq_true rfl) (by assumption) (Cv.to (c_land hX0 (q := cl + 2) (by omega) (by omega) (by omega)) ?_)
          rintro M₁ rfl
          first | refine wp_iincN (ck_get kk_Pa_both 36 rfl) rfl (by decide) rfl ?_ | refine wp_iinc (ck_get kk_Pa_both 36 rfl) rfl (by decide) rfl ?_
          refine wp_goto (t := 12) (ck_get kk_Pa_both 37 rfl) (by decide) ?_
          refine Wp.mono (h2 d j lf2 (cl + 2 + sg.length) _ (q + 1) _ hd g2 g3 (by omega) (by omega) (by omega)) ?_
          rintro r₂ M₂ ⟨x₂, hr₂, hq₂⟩
          refine ⟨x₂, hr₂, ?_⟩
          rw [hr, pbd_y]
          have e1 : cl + ([nI 5, nI (cl + 2 + sg.length)] ++ sg).length = cl + 2 + sg.length := by rw [List.length_append, ← Nat.add_assoc]; rfl
          rw [e1]
          exact pOK.bd (Ext.land Ext.two hE) e1.symm hq₂
        · refine wp_iconst (v := nI 0) (by decide) (ck_get kk_Pa_both 30 rfl) ?_
          refine wp_ireturn (ck_get kk_Pa_both 31 rfl) rfl rfl ⟨_, rfl, ?_⟩
          exact hq₁.no hc54
  · rw [if_neg h0]
    refine wp_iload_n rfl (ck_get kk_Pa_both 8 rfl) ?_
    refine wp_sipush (v := nI 400) (by decide) (ck_get kk_Pa_both 9 rfl) ?_
    first | refine wp_icmp_geN (t := 73) (ck_get kk_Pa_both 10 rfl) (by decide) (by omega) (by omega) (fun hc16 => ?_) (fun hc16 => ?_) | refine wp_icmp_ge (t := 73) (ck_get kk_Pa_both 10 rfl) (by decide) (fun hc16 => ?_) (fun hc16 => ?_)
    · refine wp_iconst (v := nI 1) (by decide) (ck_get kk_Pa_both 38 rfl) ?_
      refine wp_ireturn (ck_get kk_Pa_both 39 rfl) rfl rfl ⟨_, rfl, ?_⟩
      exact pOK.yes Ext.nil
    · refine wp_aload_n rfl (ck_get kk_Pa_both 11 rfl) ?_
      refine wp_ldcs (i := 4) hS1 (by decide) rfl rfl (ck_get kk_Pa_both 12 rfl) ?_
      refine wp_cV1i (ck_get kk_Pa_both 13 rfl) ml_Pa_56 (by omega) (Nat.le_of_ble_eq_true rfl) (by assumption) (Ci.to (c_isWordN hS hX0 (by decide) h0) ?_)
      rintro _ M1 ⟨rfl, eqm1⟩
      obtain rfl := eqm1.symm
      first | refine wp_if_eqN (t := 73) (ck_get kk_Pa_both 14 rfl) (by decide) (by omega) (fun hc25 => ?_) (fun hc25 => ?_) | refine wp_if_eq (t := 73) (ck_get kk_Pa_both 14 rfl) (by decide) (fun hc25 => ?_) (fun hc25 => ?_)
      · refine wp_iconst (v := nI 1) (by decide) (ck_get kk_Pa_both 38 rfl) ?_
        refine wp_ireturn (ck_get kk_Pa_both 39 rfl) rfl rfl ⟨_, rfl, ?_⟩
        exact pOK.yes Ext.nil
      · omega
theorem pa_both (hS : OutOK g) (hX : TxOK M pa tp L bt) (h1 : SN g M pa L bt od Y_Pa_plain 11 5 4 f) (h2 : SR g M pa L bt od Y_Pa_both 12 7 f) : SN g M pa L bt od Y_Pa_both 12 8 5 (f + 1) := by
  intro d i lf cl cd hd hi hlf hcl hf
  refine cw_entry 2 pf_Pa_both rfl ?_
  have hX0 := hX
  obtain ⟨⟨t0, r0, hPr, r2, t2, htp⟩, h3, hL, hbt, hb2⟩ := hX
  have p0 := hPr.1
  have hS1 := hS.1
  rw [psr_8]
  refine wp_aload_n rfl (ck_get kk_Pa_both 0 rfl) ?_
  refine wp_iload_n rfl (ck_get kk_Pa_both 1 rfl) ?_
  refine wp_cV1i (ck_get kk_Pa_both 2 rfl) ml_Pa_172 (by omega) (Nat.le_of_ble_eq_true rfl) (by assumption) (Ci.to (h1 d i lf cl cd hd hi hlf hcl (by omega)) ?_)
  rintro x₁ M₁ hq₁
  first | refine wp_if_neN (t := 10) (ck_get kk_Pa_both 3 rfl) (by decide) (by omega) (fun hc5 => ?_) (fun hc5 => ?_) | refine wp_if_ne (t := 10) (ck_get kk_Pa_both 3 rfl) (by decide) (fun hc5 => ?_) (fun hc5 => ?_)
  · obtain ⟨j, lf2, sg, cd2, hr, rfl, hE⟩ := hq₁.t hc5
    obtain ⟨g1, g2, g3, g4, g5⟩ := psr_ok (N := L) (fun i h => tC_N h) f 5 d i lf cl j lf2 sg (by omega) hr hi hlf
    rw [show ntk 5 = 1 from rfl] at g1
    rw [show ntx 5 = 0 from rfl] at g4
    refine wp_iconst (v := nI 0) (by decide) (ck_get kk_Pa_both 6 rfl) ?_
    refine wp_istore_n (ck_get kk_Pa_both 7 rfl) (by decide) rfl ?_
    refine Wp.mono (h2 d j lf2 (cl + sg.length) cd2 0 _ hd g2 g3 (by omega) (by omega) (by omega)) ?_
    rintro r₂ M₂ ⟨x₂, hr₂, hq₂⟩
    refine ⟨x₂, hr₂, ?_⟩
    rw [hr, pbd_y]
    exact pOK.bd hE rfl hq₂
  · refine wp_iconst (v := nI 0) (by decide) (ck_get kk_Pa_both 4 rfl) ?_
    refine wp_ireturn (ck_get kk_Pa_both 5 rfl) rfl rfl ⟨_, rfl, ?_⟩
    exact hq₁.no hc5
theorem pa_testR (hS : OutOK g) (hX : TxOK M pa tp L bt) (h1 : SN g M pa L bt od Y_Pa_both 12 8 5 f) (h2 : SR g M pa L bt od Y_Pa_test 13 9 f) : SR g M pa L bt od Y_Pa_test 13 9 (f + 1) := by
  intro d i lf cl cd q x3 hd hi hlf hcl hq hf
  have hX0 := hX
  obtain ⟨⟨t0, r0, hPr, r2, t2, htp⟩, h3, hL, hbt, hb2⟩ := hX
  have p0 := hPr.1
  have hS1 := hS.1
  rw [psr_9]
  by_cases h0 : tC bt L i = 3 + 1
  · have hiL := tC_N (bt := bt) (L := L) (i := i) (by omega)
    rw [if_pos h0]
    refine wp_iload_n rfl (ck_get kk_Pa_test 8 rfl) ?_
    refine wp_sipush (v := nI 400) (by decide) (ck_get kk_Pa_test 9 rfl) ?_
    first | refine wp_icmp_geN (t := 73) (ck_get kk_Pa_test 10 rfl) (by decide) (by omega) (by omega) (fun hc16 => ?_) (fun hc16 => ?_) | refine wp_icmp_ge (t := 73) (ck_get kk_Pa_test 10 rfl) (by decide) (fun hc16 => ?_) (fun hc16 => ?_)
    · omega
    · refine wp_aload_n rfl (ck_get kk_Pa_test 11 rfl) ?_
      refine wp_ldcs (i := 3) hS1 (by decide) rfl rfl (ck_get kk_Pa_test 12 rfl) ?_
      refine wp_cV1i (ck_get kk_Pa_test 13 rfl) ml_Pa_56 (by omega) (Nat.le_of_ble_eq_true rfl) (by assumption) (Ci.to (c_isWordY hS hX0 (by decide) h0) ?_)
      rintro _ M1 ⟨rfl, eqm1⟩
      obtain rfl := eqm1.symm
      first | refine wp_if_eqN (t := 73) (ck_get kk_Pa_test 14 rfl) (by decide) (by omega) (fun hc25 => ?_) (fun hc25 => ?_) | refine wp_if_eq (t := 73) (ck_get kk_Pa_test 14 rfl) (by decide) (fun hc25 => ?_) (fun hc25 => ?_)
      · omega
      · refine wp_aload_n rfl (ck_get kk_Pa_test 15 rfl) ?_
        refine wp_cV0v (ck_get kk_Pa_test 16 rfl) ml_Pa_68 (by omega) (Nat.le_of_ble_eq_true rfl) (by assumption) (Cv.to (c_advanceT hX0) ?_)
        rintro M₁ rfl
        refine wp_aload_n rfl (ck_get kk_Pa_test 17 rfl) ?_
        refine wp_getR (ck_get kk_Pa_test 18 rfl) fl_Pa_14 (by assumption) (by assumption) ?_
        refine wp_iconst (v := nI 4) (by decide) (ck_get kk_Pa_test 19 rfl) ?_
        refine wp_iconst (v := nI 0) (by decide) (ck_get kk_Pa_test 20 rfl) ?_
        refine wp_cV2v (ck_get kk_Pa_test 21 rfl) ml_Pa_157 (by omega) (Nat.le_of_ble_eq_true rfl) (by assumption) (Cv.to (c_emit hX0 (by omega)) ?_)
        rintro M₁ rfl
        refine wp_aload_n rfl (ck_get kk_Pa_test 22 rfl) ?_
        refine wp_getR (ck_get kk_Pa_test 23 rfl) fl_Pa_14 (by assumption) (by assumption) ?_
        refine wp_getIv (v := nI (cl + 2)) (ck_get kk_Pa_test 24 rfl) fl_Pa_78 (by assumption) (cS_8) ?_
        refine wp_istore_n (ck_get kk_Pa_test 25 rfl) (by decide) rfl ?_
        refine wp_aload_n rfl (ck_get kk_Pa_test 26 rfl) ?_
        refine wp_iload_n rfl (ck_get kk_Pa_test 27 rfl) ?_
        refine wp_cV1i (ck_get kk_Pa_test 28 rfl) ml_Pa_164 (by omega) (Nat.le_of_ble_eq_true rfl) (by assumption) (Ci.to (h1 d (i + 1) lf (cl + 2) _ hd (by omega) hlf (by omega) (by omega)) ?_)
        rintro x₁ M₁ hq₁
        first | refine wp_if_neN (t := 59) (ck_get kk_Pa_test 29 rfl) (by decide) (by omega) (fun hc54 => ?_) (fun hc54 => ?_) | refine wp_if_ne (t := 59) (ck_get kk_Pa_test 29 rfl) (by decide) (fun hc54 => ?_) (fun hc54 => ?_)
        · obtain ⟨j, lf2, sg, cd2, hr, rfl, hE⟩ := hq₁.t hc54
          obtain ⟨g1, g2, g3, g4, g5⟩ := psr_ok (N := L) (fun i h => tC_N h) f 8 d (i + 1) lf (cl + 2) j lf2 sg (by omega) hr (by omega) hlf
          rw [show ntk 8 = 1 from rfl] at g1
          rw [show ntx 8 = 0 from rfl] at g4
          refine wp_aload_n rfl (ck_get kk_Pa_test 32 rfl) ?_
          refine wp_getR (ck_get kk_Pa_test 33 rfl) fl_Pa_14 (by assumption) (by assumption) ?_
          refine wp_iload_n rfl (ck_get kk_Pa_test 34 rfl) ?_
          refine wp_cV1v (ck_get kk_Pa_test 35 rfl) ml_Pa_169 (by omega) (Nat.le_of_ble_eq_true rfl) (by assumption) (Cv.to (c_land hX0 (q := cl + 2) (by omega) (by omega) (by omega)) ?_)
          rintro M₁ rfl
          first | refine wp_iincN (ck_get kk_Pa_test 36 rfl) rfl (by decide) rfl ?_ | refine wp_iinc (ck_get kk_Pa_test 36 rfl) rfl (by decide) rfl ?_
          refine wp_goto (t := 12) (ck_get kk_Pa_test 37 rfl) (by decide) ?_
          refine Wp.mono (h2 d j lf2 (cl + 2 + sg.length) _ (q + 1) _ hd g2 g3 (by omega) (by omega) (by omega)) ?_
          rintro r₂ M₂ ⟨x₂, hr₂, hq₂⟩
          refine ⟨x₂, hr₂, ?_⟩
          rw [hr, pbd_y]
          have e1 : cl + ([nI 4, nI (cl + 2 + sg.length)] ++ sg).length = cl + 2 + sg.length := by rw [List.length_append, ← Nat.add_assoc]; rfl
          rw [e1]
          exact pOK.bd (Ext.land Ext.two hE) e1.symm hq₂
        · refine wp_iconst (v := nI 0) (by decide) (ck_get kk_Pa_test 30 rfl) ?_
          refine wp_ireturn (ck_get kk_Pa_test 31 rfl) rfl rfl ⟨_, rfl, ?_⟩
          exact hq₁.no hc54
  · rw [if_neg h0]
    refine wp_iload_n rfl (ck_get kk_Pa_test 8 rfl) ?_
    refine wp_sipush (v := nI 400) (by decide) (ck_get kk_Pa_test 9 rfl) ?_
    first | refine wp_icmp_geN (t := 73) (ck_get kk_Pa_test 10 rfl) (by decide) (by omega) (by omega) (fun hc16 => ?_) (fun hc16 => ?_) | refine wp_icmp_ge (t := 73) (ck_get kk_Pa_test 10 rfl) (by decide) (fun hc16 => ?_) (fun hc16 => ?_)
    · refine wp_iconst (v := nI 1) (by decide) (ck_get kk_Pa_test 38 rfl) ?_
      refine wp_ireturn (ck_get kk_Pa_test 39 rfl) rfl rfl ⟨_, rfl, ?_⟩
      exact pOK.yes Ext.nil
    · refine wp_aload_n rfl (ck_get kk_Pa_test 11 rfl) ?_
      refine wp_ldcs (i := 3) hS1 (by decide) rfl rfl (ck_get kk_Pa_test 12 rfl) ?_
      refine wp_cV1i (ck_get kk_Pa_test 13 rfl) ml_Pa_56 (by omega) (Nat.le_of_ble_eq_true rfl) (by assumption) (Ci.to (c_isWordN hS hX0 (by decide) h0) ?_)
      rintro _ M1 ⟨rfl, eqm1⟩
      obtain rfl := eqm1.symm
      first | refine wp_if_eqN (t := 73) (ck_get kk_Pa_test 14 rfl) (by decide) (by omega) (fun hc25 => ?_) (fun hc25 => ?_) | refine wp_if_eq (t := 73) (ck_get kk_Pa_test 14 rfl) (by decide) (fun hc25 => ?_) (fun hc25 => ?_)
      · refine wp_iconst (v := nI 1) (by decide) (ck_get kk_Pa_test 38 rfl) ?_
        refine wp_ireturn (ck_get kk_Pa_test 39 rfl) rfl rfl ⟨_, rfl, ?_⟩
        exact pOK.yes Ext.nil
      · omega
theorem pa_test (hS : OutOK g) (hX : TxOK M pa tp L bt) (h1 : SN g M pa L bt od Y_Pa_both 12 8 5 f) (h2 : SR g M pa L bt od Y_Pa_test 13 9 f) : SN g M pa L bt od Y_Pa_test 13 10 6 (f + 1) := by
  intro d i lf cl cd hd hi hlf hcl hf
  refine cw_entry 2 pf_Pa_test rfl ?_
  have hX0 := hX
  obtain ⟨⟨t0, r0, hPr, r2, t2, htp⟩, h3, hL, hbt, hb2⟩ := hX
  have p0 := hPr.1
  have hS1 := hS.1
  rw [psr_10]
  refine wp_aload_n rfl (ck_get kk_Pa_test 0 rfl) ?_
  refine wp_iload_n rfl (ck_get kk_Pa_test 1 rfl) ?_
  refine wp_cV1i (ck_get kk_Pa_test 2 rfl) ml_Pa_164 (by omega) (Nat.le_of_ble_eq_true rfl) (by assumption) (Ci.to (h1 d i lf cl cd hd hi hlf hcl (by omega)) ?_)
  rintro x₁ M₁ hq₁
  first | refine wp_if_neN (t := 10) (ck_get kk_Pa_test 3 rfl) (by decide) (by omega) (fun hc5 => ?_) (fun hc5 => ?_) | refine wp_if_ne (t := 10) (ck_get kk_Pa_test 3 rfl) (by decide) (fun hc5 => ?_) (fun hc5 => ?_)
  · obtain ⟨j, lf2, sg, cd2, hr, rfl, hE⟩ := hq₁.t hc5
    obtain ⟨g1, g2, g3, g4, g5⟩ := psr_ok (N := L) (fun i h => tC_N h) f 8 d i lf cl j lf2 sg (by omega) hr hi hlf
    rw [show ntk 8 = 1 from rfl] at g1
    rw [show ntx 8 = 0 from rfl] at g4
    refine wp_iconst (v := nI 0) (by decide) (ck_get kk_Pa_test 6 rfl) ?_
    refine wp_istore_n (ck_get kk_Pa_test 7 rfl) (by decide) rfl ?_
    refine Wp.mono (h2 d j lf2 (cl + sg.length) cd2 0 _ hd g2 g3 (by omega) (by omega) (by omega)) ?_
    rintro r₂ M₂ ⟨x₂, hr₂, hq₂⟩
    refine ⟨x₂, hr₂, ?_⟩
    rw [hr, pbd_y]
    exact pOK.bd hE rfl hq₂
  · refine wp_iconst (v := nI 0) (by decide) (ck_get kk_Pa_test 4 rfl) ?_
    refine wp_ireturn (ck_get kk_Pa_test 5 rfl) rfl rfl ⟨_, rfl, ?_⟩
    exact hq₁.no hc5
end PE
