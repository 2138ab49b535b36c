/-! ===== MissCurves$Parser: a part; all reading methods together ===== -/
section PF
variable {g : Gl} {M : Mem} {pa tp L : Nat} {bt : Nat → Nat} {od : Bool} {f : Nat}
theorem isLW_15 {od : Bool} {c : Nat} (h : isLW od c = true) (ho : od = true) : (15 ≤ c ↔ 3 ≤ wIx od c 0) ∧ c ≤ 16 ∧ 12 ≤ c ∧ wIx od c 0 < 20 := by
  subst ho
  have h1 : 12 ≤ c ∧ c ≤ 16 := of_decide_eq_true h
  unfold wIx
  rw [if_pos rfl]
  by_cases h15 : c = 15
  · rw [if_pos h15]; omega
  rw [if_neg h15]
  by_cases h16 : c = 16
  · rw [if_pos h16]; omega
  rw [if_neg h16]; omega
theorem isLW_lt {od : Bool} {c : Nat} (h : isLW od c = true) : wIx od c 0 < 20 ∧ c < 17 ∧ 7 ≤ c := by
  cases od with
  | true =>
    have := isLW_15 h rfl
    omega
  | false =>
    have h1 : 7 ≤ c ∧ c ≤ 12 := of_decide_eq_true h
    unfold wIx
    rw [if_neg (by decide)]
    by_cases h15 : c = 11
    · rw [if_pos h15]; omega
    rw [if_neg h15]
    by_cases h16 : c = 12
    · rw [if_pos h16]; omega
    rw [if_neg h16]; omega
theorem wIx_add {c k : Nat} (h : 15 ≤ c) (h2 : c ≤ 16) : wIx true c 0 + k = wIx true c k := by
  unfold wIx
  rw [if_pos rfl, if_pos rfl]
  by_cases h15 : c = 15
  · rw [if_pos h15, if_pos h15]
  rw [if_neg h15, if_neg h15, if_pos (by omega), if_pos (by omega)]
/-- the part behind the word: no bracket, its word is w (or none) -/
theorem pa_part2 (hS : OutOK g) (hX : TxOK M pa tp L bt) (hod : mI M pa 4 = bI od) {d i lf cl : Nat} {cd : Nat → Int32} (hi : i ≤ L) (hlf : lf ≤ 50) (hcl : cl ≤ 2 * i) (hb : ¬ tC bt L i = 191) :
    Wp g Y_Pa_part (20 * (9 - d) + 7) 36 [some (.ref pa), some (.int (nI d)), some (.int (if isLW od (tC bt L i) = true then nI (wIx od (tC bt L i) 0) else -1)), none] [] (cTk M pa L bt (tS bt L i) lf cl cd) (fun r M2 => ∃ x, r = some (.int x) ∧ pOK M pa L bt cl cd (if tC bt L i = 50 ∧ tV bt L i ≤ 1000 then (if 50 ≤ lf then (false, i, lf, []) else (true, i + 1, lf + 1, [nI 1, nI (tV bt L i)]))
      else if isLW od (tC bt L i) = true then
        (if 50 ≤ lf then (false, i, lf, [])
        else if od = true ∧ 15 ≤ tC bt L i then (if tC bt L (i + 1) = 50 ∧ tV bt L (i + 1) < 4 then (true, i + 2, lf + 1, [nI 2, nI (wIx od (tC bt L i) (tV bt L (i + 1)))]) else (false, i + 1, lf + 1, []))
        else (true, i + 1, lf + 1, [nI 2, nI (wIx od (tC bt L i) 0)]))
      else (false, i, lf, [])) x M2) := by
  have hX0 := hX
  obtain ⟨⟨t0, r0, hPr, r2, t2, htp⟩, h3, hL, hbt, hb2⟩ := hX
  have p0 := hPr.1
  have hkl : kOf bt L (tS bt L i) ≤ 3 := kOf_le
  have hvl : vOf bt L (tS bt L i) ≤ 1001 := vOf_le hb2
  have hkl1 : kOf bt L (tS bt L (i + 1)) ≤ 3 := kOf_le
  have hvl1 : vOf bt L (tS bt L (i + 1)) ≤ 1001 := vOf_le hb2
  have e6 : ∀ i lf cl cd, mI (cTk M pa L bt (tS bt L i) lf cl cd) pa 6 = nI (kOf bt L (tS bt L i)) := fun i lf cl cd => by rw [cS_pa]; rfl
  have e9 : ∀ i lf cl cd, mI (cTk M pa L bt (tS bt L i) lf cl cd) pa 9 = nI (vOf bt L (tS bt L i)) := fun i lf cl cd => by rw [cS_pa]; rfl
  have e5 : ∀ i lf cl cd, mI (cTk M pa L bt (tS bt L i) lf cl cd) pa 5 = nI lf := fun i lf cl cd => by rw [cS_pa]; rfl
  have e4 : ∀ i lf cl cd, mI (cTk M pa L bt (tS bt L i) lf cl cd) pa 4 = bI od := fun i lf cl cd => by rw [cS_pa]; exact hod
  by_cases hn : tC bt L i = 50 ∧ tV bt L i ≤ 1000
  · have hk2 : kOf bt L (tS bt L i) = 2 := tC_num.mp hn.1
    have hv2 : vOf bt L (tS bt L i) ≤ 1000 := hn.2
    have hiL := tC_N (bt := bt) (L := L) (i := i) (by omega)
    rw [if_pos hn]
    by_cases h5 : 50 ≤ lf
    · rw [if_pos h5]
      refine wp_aload_n rfl (ck_get kk_Pa_part 18 rfl) ?_
      refine wp_getIv (v := nI (kOf bt L (tS bt L i))) (ck_get kk_Pa_part 19 rfl) fl_Pa_38 (by assumption) (e6 _ _ _ _) ?_
      refine wp_iconst (v := nI 2) (by decide) (ck_get kk_Pa_part 20 rfl) ?_
      first | refine wp_icmp_neN (t := 58) (ck_get kk_Pa_part 21 rfl) (by decide) (by omega) (by omega) (fun hc41 => ?_) (fun hc41 => ?_) | refine wp_icmp_ne (t := 58) (ck_get kk_Pa_part 21 rfl) (by decide) (fun hc41 => ?_) (fun hc41 => ?_)
      · omega
      · refine wp_aload_n rfl (ck_get kk_Pa_part 22 rfl) ?_
        refine wp_getIv (v := nI (vOf bt L (tS bt L i))) (ck_get kk_Pa_part 23 rfl) fl_Pa_47 (by assumption) (e9 _ _ _ _) ?_
        refine wp_sipush (v := nI 1000) (by decide) (ck_get kk_Pa_part 24 rfl) ?_
        first | refine wp_icmp_gtN (t := 58) (ck_get kk_Pa_part 25 rfl) (by decide) (by omega) (by omega) (fun hc51 => ?_) (fun hc51 => ?_) | refine wp_icmp_gt (t := 58) (ck_get kk_Pa_part 25 rfl) (by decide) (fun hc51 => ?_) (fun hc51 => ?_)
        · omega
        · refine wp_iconst (v := nI 1) (by decide) (ck_get kk_Pa_part 26 rfl) ?_
          refine wp_goto (t := 59) (ck_get kk_Pa_part 27 rfl) (by decide) ?_
          refine wp_istore_n (ck_get kk_Pa_part 29 rfl) (by decide) rfl ?_
          refine wp_iload_n rfl (ck_get kk_Pa_part 30 rfl) ?_
          first | refine wp_if_neN (t := 69) (ck_get kk_Pa_part 31 rfl) (by decide) (by omega) (fun hc61 => ?_) (fun hc61 => ?_) | refine wp_if_ne (t := 69) (ck_get kk_Pa_part 31 rfl) (by decide) (fun hc61 => ?_) (fun hc61 => ?_)
          · refine wp_aload_n rfl (ck_get kk_Pa_part 35 rfl) ?_
            refine wp_getIv (v := nI lf) (ck_get kk_Pa_part 36 rfl) fl_Pa_35 (by assumption) (e5 _ _ _ _) ?_
            refine wp_bipush (v := nI 50) (by decide) (ck_get kk_Pa_part 37 rfl) ?_
            first | refine wp_icmp_ltN (t := 83) (ck_get kk_Pa_part 38 rfl) (by decide) (by omega) (by omega) (fun hc75 => ?_) (fun hc75 => ?_) | refine wp_icmp_lt (t := 83) (ck_get kk_Pa_part 38 rfl) (by decide) (fun hc75 => ?_) (fun hc75 => ?_)
            · omega
            · refine wp_aload_n rfl (ck_get kk_Pa_part 39 rfl) ?_
              refine wp_cV0i (ck_get kk_Pa_part 40 rfl) ml_Pa_71 (by omega) (Nat.le_of_ble_eq_true rfl) (by assumption) (Ci.to (c_failT hX0 (lf0 := lf) (cl0 := cl) (cd0 := cd) (sg := [])) ?_)
              rintro x₁ M₁ hq₁
              refine wp_ireturn (ck_get kk_Pa_part 41 rfl) rfl hq₁.nar ⟨_, rfl, ?_⟩
              exact hq₁
          · omega
    · rw [if_neg h5]
      refine wp_aload_n rfl (ck_get kk_Pa_part 18 rfl) ?_
      refine wp_getIv (v := nI (kOf bt L (tS bt L i))) (ck_get kk_Pa_part 19 rfl) fl_Pa_38 (by assumption) (e6 _ _ _ _) ?_
      refine wp_iconst (v := nI 2) (by decide) (ck_get kk_Pa_part 20 rfl) ?_
      first | refine wp_icmp_neN (t := 58) (ck_get kk_Pa_part 21 rfl) (by decide) (by omega) (by omega) (fun hc41 => ?_) (fun hc41 => ?_) | refine wp_icmp_ne (t := 58) (ck_get kk_Pa_part 21 rfl) (by decide) (fun hc41 => ?_) (fun hc41 => ?_)
      · omega
      · refine wp_aload_n rfl (ck_get kk_Pa_part 22 rfl) ?_
        refine wp_getIv (v := nI (vOf bt L (tS bt L i))) (ck_get kk_Pa_part 23 rfl) fl_Pa_47 (by assumption) (e9 _ _ _ _) ?_
        refine wp_sipush (v := nI 1000) (by decide) (ck_get kk_Pa_part 24 rfl) ?_
        first | refine wp_icmp_gtN (t := 58) (ck_get kk_Pa_part 25 rfl) (by decide) (by omega) (by omega) (fun hc51 => ?_) (fun hc51 => ?_) | refine wp_icmp_gt (t := 58) (ck_get kk_Pa_part 25 rfl) (by decide) (fun hc51 => ?_) (fun hc51 => ?_)
        · omega
        · refine wp_iconst (v := nI 1) (by decide) (ck_get kk_Pa_part 26 rfl) ?_
          refine wp_goto (t := 59) (ck_get kk_Pa_part 27 rfl) (by decide) ?_
          refine wp_istore_n (ck_get kk_Pa_part 29 rfl) (by decide) rfl ?_
          refine wp_iload_n rfl (ck_get kk_Pa_part 30 rfl) ?_
          first | refine wp_if_neN (t := 69) (ck_get kk_Pa_part 31 rfl) (by decide) (by omega) (fun hc61 => ?_) (fun hc61 => ?_) | refine wp_if_ne (t := 69) (ck_get kk_Pa_part 31 rfl) (by decide) (fun hc61 => ?_) (fun hc61 => ?_)
          · refine wp_aload_n rfl (ck_get kk_Pa_part 35 rfl) ?_
            refine wp_getIv (v := nI lf) (ck_get kk_Pa_part 36 rfl) fl_Pa_35 (by assumption) (e5 _ _ _ _) ?_
            refine wp_bipush (v := nI 50) (by decide) (ck_get kk_Pa_part 37 rfl) ?_
            first | refine wp_icmp_ltN (t := 83) (ck_get kk_Pa_part 38 rfl) (by decide) (by omega) (by omega) (fun hc75 => ?_) (fun hc75 => ?_) | refine wp_icmp_lt (t := 83) (ck_get kk_Pa_part 38 rfl) (by decide) (fun hc75 => ?_) (fun hc75 => ?_)
            · refine wp_aload_n rfl (ck_get kk_Pa_part 42 rfl) ?_
              refine wp_dup rfl (ck_get kk_Pa_part 43 rfl) ?_
              refine wp_getIv (v := nI lf) (ck_get kk_Pa_part 44 rfl) fl_Pa_35 (by assumption) (e5 _ _ _ _) ?_
              refine wp_iconst (v := nI 1) (by decide) (ck_get kk_Pa_part 45 rfl) ?_
              first | refine wp_iaddN (ck_get kk_Pa_part 46 rfl) ?_ | refine wp_iadd (ck_get kk_Pa_part 46 rfl) ?_
              refine wp_putI (ck_get kk_Pa_part 47 rfl) fl_Pa_35 (by decide +kernel) (by assumption) (okI_int _) ?_
              rw [cS_w5]
              refine wp_iload_n rfl (ck_get kk_Pa_part 48 rfl) ?_
              first | refine wp_if_eqN (t := 115) (ck_get kk_Pa_part 49 rfl) (by decide) (by omega) (fun hc94 => ?_) (fun hc94 => ?_) | refine wp_if_eq (t := 115) (ck_get kk_Pa_part 49 rfl) (by decide) (fun hc94 => ?_) (fun hc94 => ?_)
              · omega
              · refine wp_aload_n rfl (ck_get kk_Pa_part 50 rfl) ?_
                refine wp_getR (ck_get kk_Pa_part 51 rfl) fl_Pa_14 (by assumption) (by assumption) ?_
                refine wp_iconst (v := nI 1) (by decide) (ck_get kk_Pa_part 52 rfl) ?_
                refine wp_aload_n rfl (ck_get kk_Pa_part 53 rfl) ?_
                refine wp_getIv (v := nI (vOf bt L (tS bt L i))) (ck_get kk_Pa_part 54 rfl) fl_Pa_47 (by assumption) (e9 _ _ _ _) ?_
                refine wp_cV2v (ck_get kk_Pa_part 55 rfl) ml_Pa_157 (by omega) (Nat.le_of_ble_eq_true rfl) (by assumption) (Cv.to (c_emit hX0 (by omega)) ?_)
                rintro M₁ rfl
                refine wp_aload_n rfl (ck_get kk_Pa_part 56 rfl) ?_
                refine wp_cV0v (ck_get kk_Pa_part 57 rfl) ml_Pa_68 (by omega) (Nat.le_of_ble_eq_true rfl) (by assumption) (Cv.to (c_advanceT hX0) ?_)
                rintro M₁ rfl
                refine wp_iconst (v := nI 1) (by decide) (ck_get kk_Pa_part 58 rfl) ?_
                refine wp_ireturn (ck_get kk_Pa_part 59 rfl) rfl rfl ⟨_, rfl, ?_⟩
                exact pOK.yes (sg := [nI 1, nI (tV bt L i)]) Ext.two
            · omega
          · omega
  rw [if_neg hn]
  have hnum : kOf bt L (tS bt L i) = 2 → 1000 < vOf bt L (tS bt L i) := fun h => by
    have h1 := tC_num.mpr h
    have h2 : ¬ vOf bt L (tS bt L i) ≤ 1000 := fun h2 => hn ⟨h1, h2⟩
    omega
  by_cases hw : isLW od (tC bt L i) = true
  · have hw2 := isLW_lt hw
    have hiL := tC_N (bt := bt) (L := L) (i := i) (by omega)
    have hkn : ¬ kOf bt L (tS bt L i) = 2 := fun h => by
      have := tC_num.mpr h
      omega
    rw [if_pos hw, if_pos hw]
    have hnm : ¬ nI (wIx od (tC bt L i) 0) = -1 := nI_nm1 (by omega)
    by_cases h5 : 50 ≤ lf
    · rw [if_pos h5]
      refine wp_aload_n rfl (ck_get kk_Pa_part 18 rfl) ?_
      refine wp_getIv (v := nI (kOf bt L (tS bt L i))) (ck_get kk_Pa_part 19 rfl) fl_Pa_38 (by assumption) (e6 _ _ _ _) ?_
      refine wp_iconst (v := nI 2) (by decide) (ck_get kk_Pa_part 20 rfl) ?_
      first | refine wp_icmp_neN (t := 58) (ck_get kk_Pa_part 21 rfl) (by decide) (by omega) (by omega) (fun hc41 => ?_) (fun hc41 => ?_) | refine wp_icmp_ne (t := 58) (ck_get kk_Pa_part 21 rfl) (by decide) (fun hc41 => ?_) (fun hc41 => ?_)
      · refine wp_iconst (v := nI 0) (by decide) (ck_get kk_Pa_part 28 rfl) ?_
        refine wp_istore_n (ck_get kk_Pa_part 29 rfl) (by decide) rfl ?_
        refine wp_iload_n rfl (ck_get kk_Pa_part 30 rfl) ?_
        first | refine wp_if_neN (t := 69) (ck_get kk_Pa_part 31 rfl) (by decide) (by omega) (fun hc61 => ?_) (fun hc61 => ?_) | refine wp_if_ne (t := 69) (ck_get kk_Pa_part 31 rfl) (by decide) (fun hc61 => ?_) (fun hc61 => ?_)
        · omega
        · refine wp_iload_n rfl (ck_get kk_Pa_part 32 rfl) ?_
          refine wp_iconst (v := (-1)) (by decide) (ck_get kk_Pa_part 33 rfl) ?_
          refine wp_icmp_eq (t := 78) (ck_get kk_Pa_part 34 rfl) (by decide) (fun hc66 => ?_) (fun hc66 => ?_)
          · exact absurd hc66 hnm
          · refine wp_aload_n rfl (ck_get kk_Pa_part 35 rfl) ?_
            refine wp_getIv (v := nI lf) (ck_get kk_Pa_part 36 rfl) fl_Pa_35 (by assumption) (e5 _ _ _ _) ?_
            refine wp_bipush (v := nI 50) (by decide) (ck_get kk_Pa_part 37 rfl) ?_
            first | refine wp_icmp_ltN (t := 83) (ck_get kk_Pa_part 38 rfl) (by decide) (by omega) (by omega) (fun hc75 => ?_) (fun hc75 => ?_) | refine wp_icmp_lt (t := 83) (ck_get kk_Pa_part 38 rfl) (by decide) (fun hc75 => ?_) (fun hc75 => ?_)
            · omega
            · refine wp_aload_n rfl (ck_get kk_Pa_part 39 rfl) ?_
              refine wp_cV0i (ck_get kk_Pa_part 40 rfl) ml_Pa_71 (by omega) (Nat.le_of_ble_eq_true rfl) (by assumption) (Ci.to (c_failT hX0 (lf0 := lf) (cl0 := cl) (cd0 := cd) (sg := [])) ?_)
              rintro x₁ M₁ hq₁
              refine wp_ireturn (ck_get kk_Pa_part 41 rfl) rfl hq₁.nar ⟨_, rfl, ?_⟩
              exact hq₁
      · omega
    rw [if_neg h5]
    by_cases ho : od = true
    · have hw3 := isLW_15 hw ho
      by_cases hc : 15 ≤ tC bt L i
      · rw [if_pos ⟨ho, hc⟩]
        by_cases hq : tC bt L (i + 1) = 50 ∧ tV bt L (i + 1) < 4
        · rw [if_pos hq]
          have hk2 : kOf bt L (tS bt L (i + 1)) = 2 := tC_num.mp hq.1
          have hv2 : vOf bt L (tS bt L (i + 1)) < 4 := hq.2
          have hiL2 := tC_N (bt := bt) (L := L) (i := i + 1) (by omega)
          have hwx : wIx od (tC bt L i) 0 + tV bt L (i + 1) = wIx od (tC bt L i) (tV bt L (i + 1)) := by rw [ho]; exact wIx_add hc hw3.2.1
          refine wp_aload_n rfl (ck_get kk_Pa_part 18 rfl) ?_
          refine wp_getIv (v := nI (kOf bt L (tS bt L i))) (ck_get kk_Pa_part 19 rfl) fl_Pa_38 (by assumption) (e6 _ _ _ _) ?_
          refine wp_iconst (v := nI 2) (by decide) (ck_get kk_Pa_part 20 rfl) ?_
          first | refine wp_icmp_neN (t := 58) (ck_get kk_Pa_part 21 rfl) (by decide) (by omega) (by omega) (fun hc41 => ?_) (fun hc41 => ?_) | refine wp_icmp_ne (t := 58) (ck_get kk_Pa_part 21 rfl) (by decide) (fun hc41 => ?_) (fun hc41 => ?_)
          · refine wp_iconst (v := nI 0) (by decide) (ck_get kk_Pa_part 28 rfl) ?_
            refine wp_istore_n (ck_get kk_Pa_part 29 rfl) (by decide) rfl ?_
            refine wp_iload_n rfl (ck_get kk_Pa_part 30 rfl) ?_
            first | refine wp_if_neN (t := 69) (ck_get kk_Pa_part 31 rfl) (by decide) (by omega) (fun hc61 => ?_) (fun hc61 => ?_) | refine wp_if_ne (t := 69) (ck_get kk_Pa_part 31 rfl) (by decide) (fun hc61 => ?_) (fun hc61 => ?_)
            · omega
            · refine wp_iload_n rfl (ck_get kk_Pa_part 32 rfl) ?_
              refine wp_iconst (v := (-1)) (by decide) (ck_get kk_Pa_part 33 rfl) ?_
              refine wp_icmp_eq (t := 78) (ck_get kk_Pa_part 34 rfl) (by decide) (fun hc66 => ?_) (fun hc66 => ?_)
              · exact absurd hc66 hnm
              · refine wp_aload_n rfl (ck_get kk_Pa_part 35 rfl) ?_
                refine wp_getIv (v := nI lf) (ck_get kk_Pa_part 36 rfl) fl_Pa_35 (by assumption) (e5 _ _ _ _) ?_
                refine wp_bipush (v := nI 50) (by decide) (ck_get kk_Pa_part 37 rfl) ?_
                first | refine wp_icmp_ltN (t := 83) (ck_get kk_Pa_part 38 rfl) (by decide) (by omega) (by omega) (fun hc75 => ?_) (fun hc75 => ?_) | refine wp_icmp_lt (t := 83) (ck_get kk_Pa_part 38 rfl) (by decide) (fun hc75 => ?_) (fun hc75 => ?_)
                · refine wp_aload_n rfl (ck_get kk_Pa_part 42 rfl) ?_
                  refine wp_dup rfl (ck_get kk_Pa_part 43 rfl) ?_
                  refine wp_getIv (v := nI lf) (ck_get kk_Pa_part 44 rfl) fl_Pa_35 (by assumption) (e5 _ _ _ _) ?_
                  refine wp_iconst (v := nI 1) (by decide) (ck_get kk_Pa_part 45 rfl) ?_
                  first | refine wp_iaddN (ck_get kk_Pa_part 46 rfl) ?_ | refine wp_iadd (ck_get kk_Pa_part 46 rfl) ?_
                  refine wp_putI (ck_get kk_Pa_part 47 rfl) fl_Pa_35 (by decide +kernel) (by assumption) (okI_int _) ?_
                  rw [cS_w5]
                  refine wp_iload_n rfl (ck_get kk_Pa_part 48 rfl) ?_
                  first | refine wp_if_eqN (t := 115) (ck_get kk_Pa_part 49 rfl) (by decide) (by omega) (fun hc94 => ?_) (fun hc94 => ?_) | refine wp_if_eq (t := 115) (ck_get kk_Pa_part 49 rfl) (by decide) (fun hc94 => ?_) (fun hc94 => ?_)
                  · refine wp_aload_n rfl (ck_get kk_Pa_part 60 rfl) ?_
                    refine wp_cV0v (ck_get kk_Pa_part 61 rfl) ml_Pa_68 (by omega) (Nat.le_of_ble_eq_true rfl) (by assumption) (Cv.to (c_advanceT hX0) ?_)
                    rintro M₁ rfl
                    refine wp_aload_n rfl (ck_get kk_Pa_part 62 rfl) ?_
                    refine wp_getIv (v := nI 1) (ck_get kk_Pa_part 63 rfl) fl_Pa_31 (by assumption) (by rw [e4, ho]; rfl) ?_
                    first | refine wp_if_eqN (t := 163) (ck_get kk_Pa_part 64 rfl) (by decide) (by omega) (fun hc123 => ?_) (fun hc123 => ?_) | refine wp_if_eq (t := 163) (ck_get kk_Pa_part 64 rfl) (by decide) (fun hc123 => ?_) (fun hc123 => ?_)
                    · omega
                    · refine wp_iload_n rfl (ck_get kk_Pa_part 65 rfl) ?_
                      refine wp_iconst (v := nI 3) (by decide) (ck_get kk_Pa_part 66 rfl) ?_
                      first | refine wp_icmp_ltN (t := 163) (ck_get kk_Pa_part 67 rfl) (by decide) (by omega) (by omega) (fun hc128 => ?_) (fun hc128 => ?_) | refine wp_icmp_lt (t := 163) (ck_get kk_Pa_part 67 rfl) (by decide) (fun hc128 => ?_) (fun hc128 => ?_)
                      · omega
                      · refine wp_aload_n rfl (ck_get kk_Pa_part 68 rfl) ?_
                        refine wp_getIv (v := nI (kOf bt L (tS bt L (i + 1)))) (ck_get kk_Pa_part 69 rfl) fl_Pa_38 (by assumption) (e6 _ _ _ _) ?_
                        refine wp_iconst (v := nI 2) (by decide) (ck_get kk_Pa_part 70 rfl) ?_
                        first | refine wp_icmp_neN (t := 147) (ck_get kk_Pa_part 71 rfl) (by decide) (by omega) (by omega) (fun hc136 => ?_) (fun hc136 => ?_) | refine wp_icmp_ne (t := 147) (ck_get kk_Pa_part 71 rfl) (by decide) (fun hc136 => ?_) (fun hc136 => ?_)
                        · omega
                        · refine wp_aload_n rfl (ck_get kk_Pa_part 72 rfl) ?_
                          refine wp_getIv (v := nI (vOf bt L (tS bt L (i + 1)))) (ck_get kk_Pa_part 73 rfl) fl_Pa_47 (by assumption) (e9 _ _ _ _) ?_
                          refine wp_iconst (v := nI 4) (by decide) (ck_get kk_Pa_part 74 rfl) ?_
                          first | refine wp_icmp_ltN (t := 152) (ck_get kk_Pa_part 75 rfl) (by decide) (by omega) (by omega) (fun hc144 => ?_) (fun hc144 => ?_) | refine wp_icmp_lt (t := 152) (ck_get kk_Pa_part 75 rfl) (by decide) (fun hc144 => ?_) (fun hc144 => ?_)
                          · refine wp_iload_n rfl (ck_get kk_Pa_part 79 rfl) ?_
                            refine wp_aload_n rfl (ck_get kk_Pa_part 80 rfl) ?_
                            refine wp_getIv (v := nI (vOf bt L (tS bt L (i + 1)))) (ck_get kk_Pa_part 81 rfl) fl_Pa_47 (by assumption) (e9 _ _ _ _) ?_
                            first | refine wp_iaddN (ck_get kk_Pa_part 82 rfl) ?_ | refine wp_iadd (ck_get kk_Pa_part 82 rfl) ?_
                            refine wp_istore_n (ck_get kk_Pa_part 83 rfl) (by decide) rfl ?_
                            refine wp_aload_n rfl (ck_get kk_Pa_part 84 rfl) ?_
                            refine wp_cV0v (ck_get kk_Pa_part 85 rfl) ml_Pa_68 (by omega) (Nat.le_of_ble_eq_true rfl) (by assumption) (Cv.to (c_advanceT hX0) ?_)
                            rintro M₁ rfl
                            refine wp_aload_n rfl (ck_get kk_Pa_part 86 rfl) ?_
                            refine wp_getR (ck_get kk_Pa_part 87 rfl) fl_Pa_14 (by assumption) (by assumption) ?_
                            refine wp_iconst (v := nI 2) (by decide) (ck_get kk_Pa_part 88 rfl) ?_
                            refine wp_iload_n rfl (ck_get kk_Pa_part 89 rfl) ?_
                            refine wp_cV2v (ck_get kk_Pa_part 90 rfl) ml_Pa_157 (by omega) (Nat.le_of_ble_eq_true rfl) (by assumption) (Cv.to (c_emit hX0 (by omega)) ?_)
                            rintro M₁ rfl
                            refine wp_iconst (v := nI 1) (by decide) (ck_get kk_Pa_part 91 rfl) ?_
                            refine wp_ireturn (ck_get kk_Pa_part 92 rfl) rfl rfl ⟨_, rfl, ?_⟩
                            rw [← hwx]
                            exact pOK.yes (sg := [nI 2, nI (wIx od (tC bt L i) 0 + tV bt L (i + 1))]) Ext.two
                          · omega
                  · omega
                · omega
          · omega
        · rw [if_neg hq]
          refine wp_aload_n rfl (ck_get kk_Pa_part 18 rfl) ?_
          refine wp_getIv (v := nI (kOf bt L (tS bt L i))) (ck_get kk_Pa_part 19 rfl) fl_Pa_38 (by assumption) (e6 _ _ _ _) ?_
          refine wp_iconst (v := nI 2) (by decide) (ck_get kk_Pa_part 20 rfl) ?_
          first | refine wp_icmp_neN (t := 58) (ck_get kk_Pa_part 21 rfl) (by decide) (by omega) (by omega) (fun hc41 => ?_) (fun hc41 => ?_) | refine wp_icmp_ne (t := 58) (ck_get kk_Pa_part 21 rfl) (by decide) (fun hc41 => ?_) (fun hc41 => ?_)
          · refine wp_iconst (v := nI 0) (by decide) (ck_get kk_Pa_part 28 rfl) ?_
            refine wp_istore_n (ck_get kk_Pa_part 29 rfl) (by decide) rfl ?_
            refine wp_iload_n rfl (ck_get kk_Pa_part 30 rfl) ?_
            first | refine wp_if_neN (t := 69) (ck_get kk_Pa_part 31 rfl) (by decide) (by omega) (fun hc61 => ?_) (fun hc61 => ?_) | refine wp_if_ne (t := 69) (ck_get kk_Pa_part 31 rfl) (by decide) (fun hc61 => ?_) (fun hc61 => ?_)
            · omega
            · refine wp_iload_n rfl (ck_get kk_Pa_part 32 rfl) ?_
              refine wp_iconst (v := (-1)) (by decide) (ck_get kk_Pa_part 33 rfl) ?_
              refine wp_icmp_eq (t := 78) (ck_get kk_Pa_part 34 rfl) (by decide) (fun hc66 => ?_) (fun hc66 => ?_)
              · exact absurd hc66 hnm
              · refine wp_aload_n rfl (ck_get kk_Pa_part 35 rfl) ?_
                refine wp_getIv (v := nI lf) (ck_get kk_Pa_part 36 rfl) fl_Pa_35 (by assumption) (e5 _ _ _ _) ?_
                refine wp_bipush (v := nI 50) (by decide) (ck_get kk_Pa_part 37 rfl) ?_
                first | refine wp_icmp_ltN (t := 83) (ck_get kk_Pa_part 38 rfl) (by decide) (by omega) (by omega) (fun hc75 => ?_) (fun hc75 => ?_) | refine wp_icmp_lt (t := 83) (ck_get kk_Pa_part 38 rfl) (by decide) (fun hc75 => ?_) (fun hc75 => ?_)
                · refine wp_aload_n rfl (ck_get kk_Pa_part 42 rfl) ?_
                  refine wp_dup rfl (ck_get kk_Pa_part 43 rfl) ?_
                  refine wp_getIv (v := nI lf) (ck_get kk_Pa_part 44 rfl) fl_Pa_35 (by assumption) (e5 _ _ _ _) ?_
                  refine wp_iconst (v := nI 1) (by decide) (ck_get kk_Pa_part 45 rfl) ?_
                  first | refine wp_iaddN (ck_get kk_Pa_part 46 rfl) ?_ | refine wp_iadd (ck_get kk_Pa_part 46 rfl) ?_
                  refine wp_putI (ck_get kk_Pa_part 47 rfl) fl_Pa_35 (by decide +kernel) (by assumption) (okI_int _) ?_
                  rw [cS_w5]
                  refine wp_iload_n rfl (ck_get kk_Pa_part 48 rfl) ?_
                  first | refine wp_if_eqN (t := 115) (ck_get kk_Pa_part 49 rfl) (by decide) (by omega) (fun hc94 => ?_) (fun hc94 => ?_) | refine wp_if_eq (t := 115) (ck_get kk_Pa_part 49 rfl) (by decide) (fun hc94 => ?_) (fun hc94 => ?_)
                  · refine wp_aload_n rfl (ck_get kk_Pa_part 60 rfl) ?_
                    refine wp_cV0v (ck_get kk_Pa_part 61 rfl) ml_Pa_68 (by omega) (Nat.le_of_ble_eq_true rfl) (by assumption) (Cv.to (c_advanceT hX0) ?_)
                    rintro M₁ rfl
                    refine wp_aload_n rfl (ck_get kk_Pa_part 62 rfl) ?_
                    refine wp_getIv (v := nI 1) (ck_get kk_Pa_part 63 rfl) fl_Pa_31 (by assumption) (by rw [e4, ho]; rfl) ?_
                    first | refine wp_if_eqN (t := 163) (ck_get kk_Pa_part 64 rfl) (by decide) (by omega) (fun hc123 => ?_) (fun hc123 => ?_) | refine wp_if_eq (t := 163) (ck_get kk_Pa_part 64 rfl) (by decide) (fun hc123 => ?_) (fun hc123 => ?_)
                    · omega
                    · refine wp_iload_n rfl (ck_get kk_Pa_part 65 rfl) ?_
                      refine wp_iconst (v := nI 3) (by decide) (ck_get kk_Pa_part 66 rfl) ?_
                      first | refine wp_icmp_ltN (t := 163) (ck_get kk_Pa_part 67 rfl) (by decide) (by omega) (by omega) (fun hc128 => ?_) (fun hc128 => ?_) | refine wp_icmp_lt (t := 163) (ck_get kk_Pa_part 67 rfl) (by decide) (fun hc128 => ?_) (fun hc128 => ?_)
                      · omega
                      · refine wp_aload_n rfl (ck_get kk_Pa_part 68 rfl) ?_
                        refine wp_getIv (v := nI (kOf bt L (tS bt L (i + 1)))) (ck_get kk_Pa_part 69 rfl) fl_Pa_38 (by assumption) (e6 _ _ _ _) ?_
                        refine wp_iconst (v := nI 2) (by decide) (ck_get kk_Pa_part 70 rfl) ?_
                        first | refine wp_icmp_neN (t := 147) (ck_get kk_Pa_part 71 rfl) (by decide) (by omega) (by omega) (fun hc136 => ?_) (fun hc136 => ?_) | refine wp_icmp_ne (t := 147) (ck_get kk_Pa_part 71 rfl) (by decide) (fun hc136 => ?_) (fun hc136 => ?_)
                        · refine wp_aload_n rfl (ck_get kk_Pa_part 76 rfl) ?_
                          refine wp_cV0i (ck_get kk_Pa_part 77 rfl) ml_Pa_71 (by omega) (Nat.le_of_ble_eq_true rfl) (by assumption) (Ci.to (c_failT hX0 (lf0 := lf + 1) (cl0 := cl) (cd0 := cd) (sg := [])) ?_)
                          rintro x₁ M₁ hq₁
                          refine wp_ireturn (ck_get kk_Pa_part 78 rfl) rfl hq₁.nar ⟨_, rfl, ?_⟩
                          exact hq₁
                        · refine wp_aload_n rfl (ck_get kk_Pa_part 72 rfl) ?_
                          refine wp_getIv (v := nI (vOf bt L (tS bt L (i + 1)))) (ck_get kk_Pa_part 73 rfl) fl_Pa_47 (by assumption) (e9 _ _ _ _) ?_
                          refine wp_iconst (v := nI 4) (by decide) (ck_get kk_Pa_part 74 rfl) ?_
                          first | refine wp_icmp_ltN (t := 152) (ck_get kk_Pa_part 75 rfl) (by decide) (by omega) (by omega) (fun hc144 => ?_) (fun hc144 => ?_) | refine wp_icmp_lt (t := 152) (ck_get kk_Pa_part 75 rfl) (by decide) (fun hc144 => ?_) (fun hc144 => ?_)
                          · exact absurd ⟨tC_num.mpr (by omega), (show vOf bt L (tS bt L (i + 1)) < 4 by omega)⟩ hq
                          · refine wp_aload_n rfl (ck_get kk_Pa_part 76 rfl) ?_
                            refine wp_cV0i (ck_get kk_Pa_part 77 rfl) ml_Pa_71 (by omega) (Nat.le_of_ble_eq_true rfl) (by assumption) (Ci.to (c_failT hX0 (lf0 := lf + 1) (cl0 := cl) (cd0 := cd) (sg := [])) ?_)
                            rintro x₁ M₁ hq₁
                            refine wp_ireturn (ck_get kk_Pa_part 78 rfl) rfl hq₁.nar ⟨_, rfl, ?_⟩
                            exact hq₁
                  · omega
                · omega
          · omega
      · rw [if_neg (fun h => hc h.2)]
        refine wp_aload_n rfl (ck_get kk_Pa_part 18 rfl) ?_
        refine wp_getIv (v := nI (kOf bt L (tS bt L i))) (ck_get kk_Pa_part 19 rfl) fl_Pa_38 (by assumption) (e6 _ _ _ _) ?_
        refine wp_iconst (v := nI 2) (by decide) (ck_get kk_Pa_part 20 rfl) ?_
        first | refine wp_icmp_neN (t := 58) (ck_get kk_Pa_part 21 rfl) (by decide) (by omega) (by omega) (fun hc41 => ?_) (fun hc41 => ?_) | refine wp_icmp_ne (t := 58) (ck_get kk_Pa_part 21 rfl) (by decide) (fun hc41 => ?_) (fun hc41 => ?_)
        · refine wp_iconst (v := nI 0) (by decide) (ck_get kk_Pa_part 28 rfl) ?_
          refine wp_istore_n (ck_get kk_Pa_part 29 rfl) (by decide) rfl ?_
          refine wp_iload_n rfl (ck_get kk_Pa_part 30 rfl) ?_
          first | refine wp_if_neN (t := 69) (ck_get kk_Pa_part 31 rfl) (by decide) (by omega) (fun hc61 => ?_) (fun hc61 => ?_) | refine wp_if_ne (t := 69) (ck_get kk_Pa_part 31 rfl) (by decide) (fun hc61 => ?_) (fun hc61 => ?_)
          · omega
          · refine wp_iload_n rfl (ck_get kk_Pa_part 32 rfl) ?_
            refine wp_iconst (v := (-1)) (by decide) (ck_get kk_Pa_part 33 rfl) ?_
            refine wp_icmp_eq (t := 78) (ck_get kk_Pa_part 34 rfl) (by decide) (fun hc66 => ?_) (fun hc66 => ?_)
            · exact absurd hc66 hnm
            · refine wp_aload_n rfl (ck_get kk_Pa_part 35 rfl) ?_
              refine wp_getIv (v := nI lf) (ck_get kk_Pa_part 36 rfl) fl_Pa_35 (by assumption) (e5 _ _ _ _) ?_
              refine wp_bipush (v := nI 50) (by decide) (ck_get kk_Pa_part 37 rfl) ?_
              first | refine wp_icmp_ltN (t := 83) (ck_get kk_Pa_part 38 rfl) (by decide) (by omega) (by omega) (fun hc75 => ?_) (fun hc75 => ?_) | refine wp_icmp_lt (t := 83) (ck_get kk_Pa_part 38 rfl) (by decide) (fun hc75 => ?_) (fun hc75 => ?_)
              · refine wp_aload_n rfl (ck_get kk_Pa_part 42 rfl) ?_
                refine wp_dup rfl (ck_get kk_Pa_part 43 rfl) ?_
                refine wp_getIv (v := nI lf) (ck_get kk_Pa_part 44 rfl) fl_Pa_35 (by assumption) (e5 _ _ _ _) ?_
                refine wp_iconst (v := nI 1) (by decide) (ck_get kk_Pa_part 45 rfl) ?_
                first | refine wp_iaddN (ck_get kk_Pa_part 46 rfl) ?_ | refine wp_iadd (ck_get kk_Pa_part 46 rfl) ?_
                refine wp_putI (ck_get kk_Pa_part 47 rfl) fl_Pa_35 (by decide +kernel) (by assumption) (okI_int _) ?_
                rw [cS_w5]
                refine wp_iload_n rfl (ck_get kk_Pa_part 48 rfl) ?_
                first | refine wp_if_eqN (t := 115) (ck_get kk_Pa_part 49 rfl) (by decide) (by omega) (fun hc94 => ?_) (fun hc94 => ?_) | refine wp_if_eq (t := 115) (ck_get kk_Pa_part 49 rfl) (by decide) (fun hc94 => ?_) (fun hc94 => ?_)
                · refine wp_aload_n rfl (ck_get kk_Pa_part 60 rfl) ?_
                  refine wp_cV0v (ck_get kk_Pa_part 61 rfl) ml_Pa_68 (by omega) (Nat.le_of_ble_eq_true rfl) (by assumption) (Cv.to (c_advanceT hX0) ?_)
                  rintro M₁ rfl
                  refine wp_aload_n rfl (ck_get kk_Pa_part 62 rfl) ?_
                  refine wp_getIv (v := nI 1) (ck_get kk_Pa_part 63 rfl) fl_Pa_31 (by assumption) (by rw [e4, ho]; rfl) ?_
                  first | refine wp_if_eqN (t := 163) (ck_get kk_Pa_part 64 rfl) (by decide) (by omega) (fun hc123 => ?_) (fun hc123 => ?_) | refine wp_if_eq (t := 163) (ck_get kk_Pa_part 64 rfl) (by decide) (fun hc123 => ?_) (fun hc123 => ?_)
                  · omega
                  · refine wp_iload_n rfl (ck_get kk_Pa_part 65 rfl) ?_
                    refine wp_iconst (v := nI 3) (by decide) (ck_get kk_Pa_part 66 rfl) ?_
                    first | refine wp_icmp_ltN (t := 163) (ck_get kk_Pa_part 67 rfl) (by decide) (by omega) (by omega) (fun hc128 => ?_) (fun hc128 => ?_) | refine wp_icmp_lt (t := 163) (ck_get kk_Pa_part 67 rfl) (by decide) (fun hc128 => ?_) (fun hc128 => ?_)
                    · refine wp_aload_n rfl (ck_get kk_Pa_part 86 rfl) ?_
                      refine wp_getR (ck_get kk_Pa_part 87 rfl) fl_Pa_14 (by assumption) (by assumption) ?_
                      refine wp_iconst (v := nI 2) (by decide) (ck_get kk_Pa_part 88 rfl) ?_
                      refine wp_iload_n rfl (ck_get kk_Pa_part 89 rfl) ?_
                      refine wp_cV2v (ck_get kk_Pa_part 90 rfl) ml_Pa_157 (by omega) (Nat.le_of_ble_eq_true rfl) (by assumption) (Cv.to (c_emit hX0 (by omega)) ?_)
                      rintro M₁ rfl
                      refine wp_iconst (v := nI 1) (by decide) (ck_get kk_Pa_part 91 rfl) ?_
                      refine wp_ireturn (ck_get kk_Pa_part 92 rfl) rfl rfl ⟨_, rfl, ?_⟩
                      exact pOK.yes (sg := [nI 2, nI (wIx od (tC bt L i) 0)]) Ext.two
                    · omega
                · omega
              · omega
        · omega
    · rw [if_neg (fun h => ho h.1)]
      have ho2 : od = false := by cases od; rfl; exact absurd rfl ho
      refine wp_aload_n rfl (ck_get kk_Pa_part 18 rfl) ?_
      refine wp_getIv (v := nI (kOf bt L (tS bt L i))) (ck_get kk_Pa_part 19 rfl) fl_Pa_38 (by assumption) (e6 _ _ _ _) ?_
      refine wp_iconst (v := nI 2) (by decide) (ck_get kk_Pa_part 20 rfl) ?_
      first | refine wp_icmp_neN (t := 58) (ck_get kk_Pa_part 21 rfl) (by decide) (by omega) (by omega) (fun hc41 => ?_) (fun hc41 => ?_) | refine wp_icmp_ne (t := 58) (ck_get kk_Pa_part 21 rfl) (by decide) (fun hc41 => ?_) (fun hc41 => ?_)
      · refine wp_iconst (v := nI 0) (by decide) (ck_get kk_Pa_part 28 rfl) ?_
        refine wp_istore_n (ck_get kk_Pa_part 29 rfl) (by decide) rfl ?_
        refine wp_iload_n rfl (ck_get kk_Pa_part 30 rfl) ?_
        first | refine wp_if_neN (t := 69) (ck_get kk_Pa_part 31 rfl) (by decide) (by omega) (fun hc61 => ?_) (fun hc61 => ?_) | refine wp_if_ne (t := 69) (ck_get kk_Pa_part 31 rfl) (by decide) (fun hc61 => ?_) (fun hc61 => ?_)
        · omega
        · refine wp_iload_n rfl (ck_get kk_Pa_part 32 rfl) ?_
          refine wp_iconst (v := (-1)) (by decide) (ck_get kk_Pa_part 33 rfl) ?_
          refine wp_icmp_eq (t := 78) (ck_get kk_Pa_part 34 rfl) (by decide) (fun hc66 => ?_) (fun hc66 => ?_)
          · exact absurd hc66 hnm
          · refine wp_aload_n rfl (ck_get kk_Pa_part 35 rfl) ?_
            refine wp_getIv (v := nI lf) (ck_get kk_Pa_part 36 rfl) fl_Pa_35 (by assumption) (e5 _ _ _ _) ?_
            refine wp_bipush (v := nI 50) (by decide) (ck_get kk_Pa_part 37 rfl) ?_
            first | refine wp_icmp_ltN (t := 83) (ck_get kk_Pa_part 38 rfl) (by decide) (by omega) (by omega) (fun hc75 => ?_) (fun hc75 => ?_) | refine wp_icmp_lt (t := 83) (ck_get kk_Pa_part 38 rfl) (by decide) (fun hc75 => ?_) (fun hc75 => ?_)
            · refine wp_aload_n rfl (ck_get kk_Pa_part 42 rfl) ?_
              refine wp_dup rfl (ck_get kk_Pa_part 43 rfl) ?_
              refine wp_getIv (v := nI lf) (ck_get kk_Pa_part 44 rfl) fl_Pa_35 (by assumption) (e5 _ _ _ _) ?_
              refine wp_iconst (v := nI 1) (by decide) (ck_get kk_Pa_part 45 rfl) ?_
              first | refine wp_iaddN (ck_get kk_Pa_part 46 rfl) ?_ | refine wp_iadd (ck_get kk_Pa_part 46 rfl) ?_
              refine wp_putI (ck_get kk_Pa_part 47 rfl) fl_Pa_35 (by decide +kernel) (by assumption) (okI_int _) ?_
              rw [cS_w5]
              refine wp_iload_n rfl (ck_get kk_Pa_part 48 rfl) ?_
              first | refine wp_if_eqN (t := 115) (ck_get kk_Pa_part 49 rfl) (by decide) (by omega) (fun hc94 => ?_) (fun hc94 => ?_) | refine wp_if_eq (t := 115) (ck_get kk_Pa_part 49 rfl) (by decide) (fun hc94 => ?_) (fun hc94 => ?_)
              · refine wp_aload_n rfl (ck_get kk_Pa_part 60 rfl) ?_
                refine wp_cV0v (ck_get kk_Pa_part 61 rfl) ml_Pa_68 (by omega) (Nat.le_of_ble_eq_true rfl) (by assumption) (Cv.to (c_advanceT hX0) ?_)
                rintro M₁ rfl
                refine wp_aload_n rfl (ck_get kk_Pa_part 62 rfl) ?_
                refine wp_getIv (v := nI 0) (ck_get kk_Pa_part 63 rfl) fl_Pa_31 (by assumption) (by rw [e4, ho2]; rfl) ?_
                first | refine wp_if_eqN (t := 163) (ck_get kk_Pa_part 64 rfl) (by decide) (by omega) (fun hc123 => ?_) (fun hc123 => ?_) | refine wp_if_eq (t := 163) (ck_get kk_Pa_part 64 rfl) (by decide) (fun hc123 => ?_) (fun hc123 => ?_)
                · refine wp_aload_n rfl (ck_get kk_Pa_part 86 rfl) ?_
                  refine wp_getR (ck_get kk_Pa_part 87 rfl) fl_Pa_14 (by assumption) (by assumption) ?_
                  refine wp_iconst (v := nI 2) (by decide) (ck_get kk_Pa_part 88 rfl) ?_
                  refine wp_iload_n rfl (ck_get kk_Pa_part 89 rfl) ?_
                  refine wp_cV2v (ck_get kk_Pa_part 90 rfl) ml_Pa_157 (by omega) (Nat.le_of_ble_eq_true rfl) (by assumption) (Cv.to (c_emit hX0 (by omega)) ?_)
                  rintro M₁ rfl
                  refine wp_iconst (v := nI 1) (by decide) (ck_get kk_Pa_part 91 rfl) ?_
                  refine wp_ireturn (ck_get kk_Pa_part 92 rfl) rfl rfl ⟨_, rfl, ?_⟩
                  exact pOK.yes (sg := [nI 2, nI (wIx od (tC bt L i) 0)]) Ext.two
                · omega
              · omega
            · omega
      · omega
  · rw [if_neg hw, if_neg hw]
    refine wp_aload_n rfl (ck_get kk_Pa_part 18 rfl) ?_
    refine wp_getIv (v := nI (kOf bt L (tS bt L i))) (ck_get kk_Pa_part 19 rfl) fl_Pa_38 (by assumption) (e6 _ _ _ _) ?_
    refine wp_iconst (v := nI 2) (by decide) (ck_get kk_Pa_part 20 rfl) ?_
    first | refine wp_icmp_neN (t := 58) (ck_get kk_Pa_part 21 rfl) (by decide) (by omega) (by omega) (fun hc41 => ?_) (fun hc41 => ?_) | refine wp_icmp_ne (t := 58) (ck_get kk_Pa_part 21 rfl) (by decide) (fun hc41 => ?_) (fun hc41 => ?_)
    · refine wp_iconst (v := nI 0) (by decide) (ck_get kk_Pa_part 28 rfl) ?_
      skip
      refine wp_istore_n (ck_get kk_Pa_part 29 rfl) (by decide) rfl ?_
      refine wp_iload_n rfl (ck_get kk_Pa_part 30 rfl) ?_
      first | refine wp_if_neN (t := 69) (ck_get kk_Pa_part 31 rfl) (by decide) (by omega) (fun hc61 => ?_) (fun hc61 => ?_) | refine wp_if_ne (t := 69) (ck_get kk_Pa_part 31 rfl) (by decide) (fun hc61 => ?_) (fun hc61 => ?_)
      · omega
      · refine wp_iload_n rfl (ck_get kk_Pa_part 32 rfl) ?_
        refine wp_iconst (v := (-1)) (by decide) (ck_get kk_Pa_part 33 rfl) ?_
        refine wp_icmp_eq (t := 78) (ck_get kk_Pa_part 34 rfl) (by decide) (fun hc66 => ?_) (fun hc66 => ?_)
        · refine wp_aload_n rfl (ck_get kk_Pa_part 39 rfl) ?_
          refine wp_cV0i (ck_get kk_Pa_part 40 rfl) ml_Pa_71 (by omega) (Nat.le_of_ble_eq_true rfl) (by assumption) (Ci.to (c_failT hX0 (lf0 := lf) (cl0 := cl) (cd0 := cd) (sg := [])) ?_)
          rintro x₁ M₁ hq₁
          refine wp_ireturn (ck_get kk_Pa_part 41 rfl) rfl hq₁.nar ⟨_, rfl, ?_⟩
          exact hq₁
        · exact absurd rfl hc66
    · refine wp_aload_n rfl (ck_get kk_Pa_part 22 rfl) ?_
      refine wp_getIv (v := nI (vOf bt L (tS bt L i))) (ck_get kk_Pa_part 23 rfl) fl_Pa_47 (by assumption) (e9 _ _ _ _) ?_
      refine wp_sipush (v := nI 1000) (by decide) (ck_get kk_Pa_part 24 rfl) ?_
      first | refine wp_icmp_gtN (t := 58) (ck_get kk_Pa_part 25 rfl) (by decide) (by omega) (by omega) (fun hc51 => ?_) (fun hc51 => ?_) | refine wp_icmp_gt (t := 58) (ck_get kk_Pa_part 25 rfl) (by decide) (fun hc51 => ?_) (fun hc51 => ?_)
      · refine wp_iconst (v := nI 0) (by decide) (ck_get kk_Pa_part 28 rfl) ?_
        skip
        refine wp_istore_n (ck_get kk_Pa_part 29 rfl) (by decide) rfl ?_
        refine wp_iload_n rfl (ck_get kk_Pa_part 30 rfl) ?_
        first | refine wp_if_neN (t := 69) (ck_get kk_Pa_part 31 rfl) (by decide) (by omega) (fun hc61 => ?_) (fun hc61 => ?_) | refine wp_if_ne (t := 69) (ck_get kk_Pa_part 31 rfl) (by decide) (fun hc61 => ?_) (fun hc61 => ?_)
        · omega
        · refine wp_iload_n rfl (ck_get kk_Pa_part 32 rfl) ?_
          refine wp_iconst (v := (-1)) (by decide) (ck_get kk_Pa_part 33 rfl) ?_
          refine wp_icmp_eq (t := 78) (ck_get kk_Pa_part 34 rfl) (by decide) (fun hc66 => ?_) (fun hc66 => ?_)
          · refine wp_aload_n rfl (ck_get kk_Pa_part 39 rfl) ?_
            refine wp_cV0i (ck_get kk_Pa_part 40 rfl) ml_Pa_71 (by omega) (Nat.le_of_ble_eq_true rfl) (by assumption) (Ci.to (c_failT hX0 (lf0 := lf) (cl0 := cl) (cd0 := cd) (sg := [])) ?_)
            rintro x₁ M₁ hq₁
            refine wp_ireturn (ck_get kk_Pa_part 41 rfl) rfl hq₁.nar ⟨_, rfl, ?_⟩
            exact hq₁
          · exact absurd rfl hc66
      · have := hnum (by omega)
        omega
theorem pa_part (hS : OutOK g) (hX : TxOK M pa tp L bt) (hod : mI M pa 4 = bI od) (h1 : SN g M pa L bt od Y_Pa_sum 9 4 3 f) : SN g M pa L bt od Y_Pa_part 7 0 1 (f + 1) := by
  intro d i lf cl cd hd hi hlf hcl hf
  refine cw_entry 2 pf_Pa_part rfl ?_
  have hX0 := hX
  obtain ⟨⟨t0, r0, hPr, r2, t2, htp⟩, h3, hL, hbt, hb2⟩ := hX
  have p0 := hPr.1
  have e4 : ∀ i lf cl cd, mI (cTk M pa L bt (tS bt L i) lf cl cd) pa 4 = bI od := fun i lf cl cd => by rw [cS_pa]; exact hod
  rw [psr_0]
  by_cases hb : tC bt L i = 100 + 91
  · have hiL := tC_N (bt := bt) (L := L) (i := i) (by omega)
    rw [if_pos hb]
    refine wp_aload_n rfl (ck_get kk_Pa_part 0 rfl) ?_
    refine wp_bipush (v := nI 91) (by decide) (ck_get kk_Pa_part 1 rfl) ?_
    refine wp_cV1i (ck_get kk_Pa_part 2 rfl) ml_Pa_91 (by omega) (Nat.le_of_ble_eq_true rfl) (by assumption) (Ci.to (c_isSignY hX0 (by omega) hb) ?_)
    rintro _ M1 ⟨rfl, eqm1⟩
    obtain rfl := eqm1.symm
    first | refine wp_if_eqN (t := 17) (ck_get kk_Pa_part 3 rfl) (by decide) (by omega) (fun hc6 => ?_) (fun hc6 => ?_) | refine wp_if_eq (t := 17) (ck_get kk_Pa_part 3 rfl) (by decide) (fun hc6 => ?_) (fun hc6 => ?_)
    · omega
    · refine wp_aload_n rfl (ck_get kk_Pa_part 4 rfl) ?_
      refine wp_iload_n rfl (ck_get kk_Pa_part 5 rfl) ?_
      refine wp_bipush (v := nI 93) (by decide) (ck_get kk_Pa_part 6 rfl) ?_
      refine wp_cV2i (ck_get kk_Pa_part 7 rfl) ml_Pa_179 (by omega) (Nat.le_of_ble_eq_true rfl) (by assumption) (Ci.to (pa_brS hS hX0 h1 hd hiL hlf hcl (by omega)) ?_)
      rintro x₁ M₁ hq₁
      refine wp_ireturn (ck_get kk_Pa_part 8 rfl) rfl hq₁.nar ⟨_, rfl, ?_⟩
      exact hq₁
  rw [if_neg hb]
  have hR := pa_part2 (g := g) (d := d) (cd := cd) hS hX0 hod hi hlf hcl hb
  by_cases ho : od = true
  · subst ho
    refine wp_aload_n rfl (ck_get kk_Pa_part 0 rfl) ?_
    refine wp_bipush (v := nI 91) (by decide) (ck_get kk_Pa_part 1 rfl) ?_
    refine wp_cV1i (ck_get kk_Pa_part 2 rfl) ml_Pa_91 (by omega) (Nat.le_of_ble_eq_true rfl) (by assumption) (Ci.to (c_isSignN hX0 (by omega) hb) ?_)
    rintro _ M1 ⟨rfl, eqm1⟩
    obtain rfl := eqm1.symm
    first | refine wp_if_eqN (t := 17) (ck_get kk_Pa_part 3 rfl) (by decide) (by omega) (fun hc6 => ?_) (fun hc6 => ?_) | refine wp_if_eq (t := 17) (ck_get kk_Pa_part 3 rfl) (by decide) (fun hc6 => ?_) (fun hc6 => ?_)
    · refine wp_aload_n rfl (ck_get kk_Pa_part 9 rfl) ?_
      refine wp_getIv (v := nI 1) (ck_get kk_Pa_part 10 rfl) fl_Pa_31 (by assumption) (e4 _ _ _ _) ?_
      first | refine wp_if_eqN (t := 31) (ck_get kk_Pa_part 11 rfl) (by decide) (by omega) (fun hc21 => ?_) (fun hc21 => ?_) | refine wp_if_eq (t := 31) (ck_get kk_Pa_part 11 rfl) (by decide) (fun hc21 => ?_) (fun hc21 => ?_)
      · omega
      · refine wp_aload_n rfl (ck_get kk_Pa_part 12 rfl) ?_
        refine wp_cV0i (ck_get kk_Pa_part 13 rfl) ml_Pa_192 (by omega) (Nat.le_of_ble_eq_true rfl) (by assumption) (Ci.to (c_orderWord hS hX0) ?_)
        rintro _ M1 ⟨rfl, eqm1⟩
        obtain rfl := eqm1.symm
        refine wp_goto (t := 35) (ck_get kk_Pa_part 14 rfl) (by decide) ?_
        refine wp_istore_n (ck_get kk_Pa_part 17 rfl) (by decide) rfl ?_
        exact hR
    · omega
  · have ho2 : od = false := by cases od; rfl; exact absurd rfl ho
    subst ho2
    refine wp_aload_n rfl (ck_get kk_Pa_part 0 rfl) ?_
    refine wp_bipush (v := nI 91) (by decide) (ck_get kk_Pa_part 1 rfl) ?_
    refine wp_cV1i (ck_get kk_Pa_part 2 rfl) ml_Pa_91 (by omega) (Nat.le_of_ble_eq_true rfl) (by assumption) (Ci.to (c_isSignN hX0 (by omega) hb) ?_)
    rintro _ M1 ⟨rfl, eqm1⟩
    obtain rfl := eqm1.symm
    first | refine wp_if_eqN (t := 17) (ck_get kk_Pa_part 3 rfl) (by decide) (by omega) (fun hc6 => ?_) (fun hc6 => ?_) | refine wp_if_eq (t := 17) (ck_get kk_Pa_part 3 rfl) (by decide) (fun hc6 => ?_) (fun hc6 => ?_)
    · refine wp_aload_n rfl (ck_get kk_Pa_part 9 rfl) ?_
      refine wp_getIv (v := nI 0) (ck_get kk_Pa_part 10 rfl) fl_Pa_31 (by assumption) (e4 _ _ _ _) ?_
      first | refine wp_if_eqN (t := 31) (ck_get kk_Pa_part 11 rfl) (by decide) (by omega) (fun hc21 => ?_) (fun hc21 => ?_) | refine wp_if_eq (t := 31) (ck_get kk_Pa_part 11 rfl) (by decide) (fun hc21 => ?_) (fun hc21 => ?_)
      · refine wp_aload_n rfl (ck_get kk_Pa_part 15 rfl) ?_
        refine wp_cV0i (ck_get kk_Pa_part 16 rfl) ml_Pa_195 (by omega) (Nat.le_of_ble_eq_true rfl) (by assumption) (Ci.to (c_lawWord hS hX0) ?_)
        rintro _ M1 ⟨rfl, eqm1⟩
        obtain rfl := eqm1.symm
        refine wp_istore_n (ck_get kk_Pa_part 17 rfl) (by decide) rfl ?_
        exact hR
      · omega
    · omega
theorem SN_0 {Y : Meth} {n0 nt rk : Nat} (h : 1 ≤ rk) : SN g M pa L bt od Y n0 nt rk 0 := by
  intro d i lf cl cd hd hi hlf hcl hf
  omega
theorem SR_0 {Y : Meth} {n0 nt : Nat} : SR g M pa L bt od Y n0 nt 0 := by
  intro d i lf cl cd q x3 hd hi hlf hcl hq hf
  omega
theorem SP_0 : SP g M pa L bt od 0 := by
  intro d i lf cl cd q tn hd hi hlf hcl hq hf
  omega
/-- the reading methods of sums and tests follow the parser over tokens -/
theorem pa_all (hS : OutOK g) (hX : TxOK M pa tp L bt) (hod : mI M pa 4 = bI od) : ∀ f, SN g M pa L bt od Y_Pa_part 7 0 1 f ∧ SR g M pa L bt od Y_Pa_product 8 1 f ∧ SN g M pa L bt od Y_Pa_product 8 2 2 f ∧ SR g M pa L bt od Y_Pa_sum 9 3 f ∧ SN g M pa L bt od Y_Pa_sum 9 4 3 f ∧ SP g M pa L bt od f ∧ SR g M pa L bt od Y_Pa_both 12 7 f ∧ SN g M pa L bt od Y_Pa_both 12 8 5 f ∧ SR g M pa L bt od Y_Pa_test 13 9 f ∧ SN g M pa L bt od Y_Pa_test 13 10 6 f
  | 0 => ⟨SN_0 (by omega), SR_0, SN_0 (by omega), SR_0, SN_0 (by omega), SP_0, SR_0, SN_0 (by omega), SR_0, SN_0 (by omega)⟩
  | f + 1 => by
    obtain ⟨a1, a2, a3, a4, a5, a6, a7, a8, a9, a10⟩ := pa_all hS hX hod f
    have a11 := pa_plain hS hX a6
    exact ⟨pa_part hS hX hod a5, pa_prodR hS hX a1 a2, pa_prod hS hX a1 a2, pa_sumR hS hX a3 a4, pa_sum hS hX a3 a4, pa_plainL hS hX a5 a10 a6, pa_bothR hS hX a11 a7, pa_both hS hX a11 a7, pa_testR hS hX a8 a9, pa_test hS hX a8 a9⟩
end PF
