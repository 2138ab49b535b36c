/-! ===== seen ===== -/
section SEN
variable {g : Gl} {M : Mem}
def addS (s : SH) (a b : Nat) : SH := (s.1, s.2.1, (sSn s + 1, up1 (sSe s) (sSn s) (a, b)), s.2.2.2)
theorem i9 : (99999 : Int32) = nI 99999 := by decide
theorem b_seen {w v : Int32} : Both g Y_Mc_seen Y_Mo_seen [.int w, .int v] := by
  intro c z hc hO
  have h6 := hO.1.2.2.2.2.2.2.1
  have hln := hO.1.2.2.2.2.2.2.2.2.1
  by_cases hin : inB w 25 = true ∧ inB v 100000 = true
  · obtain ⟨bw, bv⟩ := hin
    obtain ⟨j, hj, rfl⟩ := inB_t bw (by omega)
    obtain ⟨q, hq, rfl⟩ := inB_t bv (by omega)
    by_cases hs : sSn (zS z) = 6
    · refine ⟨-5, zBad z 5, (hO.le (Nat.le_succ c)).bad, fun M h => ?_, fun M h => ?_⟩
      · skip
        have hC' := h.le (Nat.le_succ c)
        obtain ⟨pf, pg, hL, hSC, hTC, hIC, hDC, hPC, hNC, hBC, hZC⟩ := h
        obtain ⟨t0, ⟨r00, hSh⟩, ⟨r01, hTr⟩, ⟨r02, hTg⟩, ⟨r03, hWa⟩, ⟨r04, hWp⟩, ⟨r06, t921, r921a, r921b, hS0, hS1⟩, ⟨r07, t922⟩, ⟨r08, t923⟩, ⟨r010, hPa⟩, ⟨r011, hJu⟩, ⟨r012, hRe⟩, ⟨r013, hCu⟩, ⟨r014, hDe⟩, ⟨r018, t959⟩, hPf⟩ := id hL
        have t1 : mT M 1 = (6, 0) := hSh.1
        have r10 : mR M 1 0 = some 2 := hSh.2.1
        have hW2 : WoAt (mT M) (mR M) 2 := hSh.2.2.1
        have t2 : mT M 2 = (9, 0) := hW2.1
        have r20 : mR M 2 0 = some 3 := hW2.2.1
        have t3 : mT M 3 = (24, 4) := hW2.2.2.1
        have t31 : mT M 31 = (8, 0) := hTr.1
        have t924 : mT M 924 = (3, 0) := hPa.1
        have t934 : mT M 934 = (2, 0) := hJu.1
        have t938 : mT M 938 = (5, 0) := hRe.1
        have t947 : mT M 947 = (0, 0) := hCu.1
        have t952 : mT M 952 = (1, 0) := hDe.1
        have e7 := hSC.2.2.2.2.2.1
        refine cw_entry 0 pf_Mc_seen rfl ?_
        refine wp_iload_n rfl (ck_get kk_Mc_seen 0 rfl) ?_
        refine wp_cS1i (ck_get kk_Mc_seen 1 rfl) ml_Mc_275 (by omega) (Nat.le_of_ble_eq_true rfl) (Ci.to (c_isSize) ?_)
        rintro _ M1 ⟨rfl, eqm1⟩
        obtain rfl := eqm1.symm
        rw [bw]
        first | refine wp_if_eqN (t := 18) (ck_get kk_Mc_seen 2 rfl) (by decide) (by omega) (fun hc4 => ?_) (fun hc4 => ?_) | refine wp_if_eq (t := 18) (ck_get kk_Mc_seen 2 rfl) (by decide) (fun hc4 => ?_) (fun hc4 => ?_)
        · exact absurd hc4 (by decide)
        · refine wp_iload_n rfl (ck_get kk_Mc_seen 3 rfl) ?_
          first | refine wp_if_ltN (t := 18) (ck_get kk_Mc_seen 4 rfl) (by decide) (by omega) (fun hc8 => ?_) (fun hc8 => ?_) | refine wp_if_lt (t := 18) (ck_get kk_Mc_seen 4 rfl) (by decide) (fun hc8 => ?_) (fun hc8 => ?_)
          · exact hc8.elim
          · refine wp_iload_n rfl (ck_get kk_Mc_seen 5 rfl) ?_
            refine wp_ldcw kl_Mc_344 (ck_get kk_Mc_seen 6 rfl) ?_
            rw [i9]
            first | refine wp_icmp_leN (t := 24) (ck_get kk_Mc_seen 7 rfl) (by decide) (by omega) (by omega) (fun hc15 => ?_) (fun hc15 => ?_) | refine wp_icmp_le (t := 24) (ck_get kk_Mc_seen 7 rfl) (by decide) (fun hc15 => ?_) (fun hc15 => ?_)
            · refine wp_aload_n rfl (ck_get kk_Mc_seen 12 rfl) ?_
              refine wp_getR (ck_get kk_Mc_seen 13 rfl) fl_Mc_12 (by assumption) (by assumption) ?_
              first | refine wp_getIv (ck_get kk_Mc_seen 14 rfl) fl_Mc_191 (by assumption) (by assumption) ?_ | refine wp_getI (ck_get kk_Mc_seen 14 rfl) fl_Mc_191 (by assumption) ?_
              refine wp_bipush (v := nI 6) (by decide) (ck_get kk_Mc_seen 15 rfl) ?_
              first | refine wp_icmp_ltN (t := 43) (ck_get kk_Mc_seen 16 rfl) (by decide) (by omega) (by omega) (fun hc33 => ?_) (fun hc33 => ?_) | refine wp_icmp_lt (t := 43) (ck_get kk_Mc_seen 16 rfl) (by decide) (fun hc33 => ?_) (fun hc33 => ?_)
              · omega
              · refine wp_aload_n rfl (ck_get kk_Mc_seen 17 rfl) ?_
                refine wp_bipush (v := (-5)) (by decide) (ck_get kk_Mc_seen 18 rfl) ?_
                refine wp_cV1i (ck_get kk_Mc_seen 19 rfl) ml_Mc_172 (by omega) (Nat.le_of_ble_eq_true rfl) (by assumption) (Ci.to (c_refuse (k := 5) (by decide) (by omega) (by omega) hL) ?_)
                rintro x M1 ⟨e1, e2⟩
                refine wp_ireturn (ck_get kk_Mc_seen 20 rfl) rfl rfl ⟨_, rfl, ?_⟩
                exact ⟨e1, by rw [e2]; exact hC'.bad (by omega), by rw [e2]; exact MSame.bd⟩
            · omega
      · skip
        obtain ⟨hM, hSM, hUM, hIM, hDM, hPM, hNM, hBM⟩ := id h
        have to0 := hM.1
        have rfkept := MoAt.r hM 1 rfl
        have tfkept := MoAt.t hM 1 rfl
        have e385 : mI M (1020 + 2) 385 = nI (sSn (zS z)) := hSM.2.2.2.2.2.2.1
        refine cw_entry 1 pf_Mo_seen rfl ?_
        refine wp_iload_n rfl (ck_get kk_Mo_seen 0 rfl) ?_
        refine wp_cS1i (ck_get kk_Mo_seen 1 rfl) ml_Mo_404 (by omega) (Nat.le_of_ble_eq_true rfl) (Ci.to (m_isSize) ?_)
        rintro _ M1 ⟨rfl, eqm1⟩
        obtain rfl := eqm1.symm
        rw [bw]
        first | refine wp_if_eqN (t := 18) (ck_get kk_Mo_seen 2 rfl) (by decide) (by omega) (fun hc4 => ?_) (fun hc4 => ?_) | refine wp_if_eq (t := 18) (ck_get kk_Mo_seen 2 rfl) (by decide) (fun hc4 => ?_) (fun hc4 => ?_)
        · exact absurd hc4 (by decide)
        · refine wp_iload_n rfl (ck_get kk_Mo_seen 3 rfl) ?_
          refine wp_iconst (v := nI 0) (by decide) (ck_get kk_Mo_seen 4 rfl) ?_
          refine wp_ldcw kl_Mo_494 (ck_get kk_Mo_seen 5 rfl) ?_
          rw [i9]
          refine wp_cS3i (ck_get kk_Mo_seen 6 rfl) ml_Mo_18 (by omega) (Nat.le_of_ble_eq_true rfl) (Ci.to (m_lies (by omega)) ?_)
          rintro _ M1 ⟨rfl, eqm1⟩
          obtain rfl := eqm1.symm
          rw [bv]
          first | refine wp_if_neN (t := 24) (ck_get kk_Mo_seen 7 rfl) (by decide) (by omega) (fun hc15 => ?_) (fun hc15 => ?_) | refine wp_if_ne (t := 24) (ck_get kk_Mo_seen 7 rfl) (by decide) (fun hc15 => ?_) (fun hc15 => ?_)
          · refine wp_sipush (v := nI 370) (by decide) (ck_get kk_Mo_seen 12 rfl) ?_
            refine wp_iconst (v := nI 2) (by decide) (ck_get kk_Mo_seen 13 rfl) ?_
            refine wp_aload_n rfl (ck_get kk_Mo_seen 14 rfl) ?_
            refine wp_getR (ck_get kk_Mo_seen 15 rfl) fl_Mo_28 (by assumption) (by assumption) ?_
            refine wp_sipush (v := nI 385) (by decide) (ck_get kk_Mo_seen 16 rfl) ?_
            refine wp_ialdv (v := nI (sSn (zS z))) (ck_get kk_Mo_seen 17 rfl) (by assumption) (ixk_nI (k := 385) (by omega) (by omega)) (e385) ?_
            first | refine wp_imulN (ck_get kk_Mo_seen 18 rfl) ?_ | refine wp_imul (ck_get kk_Mo_seen 18 rfl) ?_
            first | refine wp_iaddN (ck_get kk_Mo_seen 19 rfl) ?_ | refine wp_iadd (ck_get kk_Mo_seen 19 rfl) ?_
            refine wp_istore_n (ck_get kk_Mo_seen 20 rfl) (by decide) rfl ?_
            refine wp_aload_n rfl (ck_get kk_Mo_seen 21 rfl) ?_
            refine wp_getR (ck_get kk_Mo_seen 22 rfl) fl_Mo_28 (by assumption) (by assumption) ?_
            refine wp_sipush (v := nI 385) (by decide) (ck_get kk_Mo_seen 23 rfl) ?_
            refine wp_ialdv (v := nI (sSn (zS z))) (ck_get kk_Mo_seen 24 rfl) (by assumption) (ixk_nI (k := 385) (by omega) (by omega)) (e385) ?_
            refine wp_bipush (v := nI 6) (by decide) (ck_get kk_Mo_seen 25 rfl) ?_
            first | refine wp_icmp_neN (t := 59) (ck_get kk_Mo_seen 26 rfl) (by decide) (by omega) (by omega) (fun hc49 => ?_) (fun hc49 => ?_) | refine wp_icmp_ne (t := 59) (ck_get kk_Mo_seen 26 rfl) (by decide) (fun hc49 => ?_) (fun hc49 => ?_)
            · omega
            · refine wp_aload_n rfl (ck_get kk_Mo_seen 27 rfl) ?_
              refine wp_bipush (v := (-5)) (by decide) (ck_get kk_Mo_seen 28 rfl) ?_
              refine wp_cV1i (ck_get kk_Mo_seen 29 rfl) ml_Mo_146 (by omega) (Nat.le_of_ble_eq_true rfl) (by assumption) (Ci.to (m_refusesV (c := 5) (by decide) hM (by omega)) ?_)
              rintro x M1 ⟨e1, e2⟩
              refine wp_ireturn (ck_get kk_Mo_seen 30 rfl) rfl rfl ⟨_, rfl, ?_⟩
              exact ⟨e1, by rw [e2]; exact h.bad (by omega), by rw [e2]; exact CSame.rf⟩
          · exact absurd hc15 (by decide)
    · refine ⟨nI (sSn (zS z) + 1), zGood (addS (zS z) j q, z.2), ZOK.good ?_, fun M h => ?_, fun M h => ?_⟩
      · obtain ⟨⟨o1, o2, o3, o4, o5, o6, o7, o8, o9⟩, oR⟩ := hO.le (Nat.le_succ c)
        refine ⟨⟨o1, o2, o3, o4, o5, o6, by show sSn (zS z) + 1 ≤ 6; omega, fun i hi => ?_, o9⟩, oR⟩
        show (up1 (sSe (zS z)) (sSn (zS z)) (j, q) i).1 ≤ 24 ∧ (up1 (sSe (zS z)) (sSn (zS z)) (j, q) i).2 ≤ 99999
        have hi2 : i < sSn (zS z) + 1 := hi
        by_cases e : i = sSn (zS z)
        · rw [e, up1_eq]; exact ⟨by show j ≤ 24; omega, by show q ≤ 99999; omega⟩
        · rw [up1_ne e]; exact o8 i (by omega)
      · have hCR := h
        have hC' := h.le (Nat.le_succ c)
        obtain ⟨pf, pg, hL, hSC, hTC, hIC, hDC, hPC, hNC, hBC, hZC⟩ := h
        obtain ⟨t0, ⟨r00, hSh⟩, ⟨r01, hTr⟩, ⟨r02, hTg⟩, ⟨r03, hWa⟩, ⟨r04, hWp⟩, ⟨r06, t921, r921a, r921b, hS0, hS1⟩, ⟨r07, t922⟩, ⟨r08, t923⟩, ⟨r010, hPa⟩, ⟨r011, hJu⟩, ⟨r012, hRe⟩, ⟨r013, hCu⟩, ⟨r014, hDe⟩, ⟨r018, t959⟩, hPf⟩ := id hL
        have t1 : mT M 1 = (6, 0) := hSh.1
        have r10 : mR M 1 0 = some 2 := hSh.2.1
        have hW2 : WoAt (mT M) (mR M) 2 := hSh.2.2.1
        have t2 : mT M 2 = (9, 0) := hW2.1
        have r20 : mR M 2 0 = some 3 := hW2.2.1
        have t3 : mT M 3 = (24, 4) := hW2.2.2.1
        have t31 : mT M 31 = (8, 0) := hTr.1
        have t924 : mT M 924 = (3, 0) := hPa.1
        have t934 : mT M 934 = (2, 0) := hJu.1
        have t938 : mT M 938 = (5, 0) := hRe.1
        have t947 : mT M 947 = (0, 0) := hCu.1
        have t952 : mT M 952 = (1, 0) := hDe.1
        have e7 : mI M 1 7 = nI (sSn (zS z)) := hSC.2.2.2.2.2.1
        have r15 : mR M 1 5 = some 28 := hSh.2.2.2.1
        have t28 : mT M 28 = (20, 6) := hSh.2.2.2.2.1
        have r16 : mR M 1 6 = some 29 := hSh.2.2.2.2.2.1
        have t29 : mT M 29 = (20, 6) := hSh.2.2.2.2.2.2.1
        refine cw_entry 0 pf_Mc_seen rfl ?_
        refine wp_iload_n rfl (ck_get kk_Mc_seen 0 rfl) ?_
        refine wp_cS1i (ck_get kk_Mc_seen 1 rfl) ml_Mc_275 (by omega) (Nat.le_of_ble_eq_true rfl) (Ci.to (c_isSize) ?_)
        rintro _ M1 ⟨rfl, eqm1⟩
        obtain rfl := eqm1.symm
        rw [bw]
        first | refine wp_if_eqN (t := 18) (ck_get kk_Mc_seen 2 rfl) (by decide) (by omega) (fun hc4 => ?_) (fun hc4 => ?_) | refine wp_if_eq (t := 18) (ck_get kk_Mc_seen 2 rfl) (by decide) (fun hc4 => ?_) (fun hc4 => ?_)
        · exact absurd hc4 (by decide)
        · refine wp_iload_n rfl (ck_get kk_Mc_seen 3 rfl) ?_
          first | refine wp_if_ltN (t := 18) (ck_get kk_Mc_seen 4 rfl) (by decide) (by omega) (fun hc8 => ?_) (fun hc8 => ?_) | refine wp_if_lt (t := 18) (ck_get kk_Mc_seen 4 rfl) (by decide) (fun hc8 => ?_) (fun hc8 => ?_)
          · exact hc8.elim
          · refine wp_iload_n rfl (ck_get kk_Mc_seen 5 rfl) ?_
            refine wp_ldcw kl_Mc_344 (ck_get kk_Mc_seen 6 rfl) ?_
            rw [i9]
            first | refine wp_icmp_leN (t := 24) (ck_get kk_Mc_seen 7 rfl) (by decide) (by omega) (by omega) (fun hc15 => ?_) (fun hc15 => ?_) | refine wp_icmp_le (t := 24) (ck_get kk_Mc_seen 7 rfl) (by decide) (fun hc15 => ?_) (fun hc15 => ?_)
            · refine wp_aload_n rfl (ck_get kk_Mc_seen 12 rfl) ?_
              refine wp_getR (ck_get kk_Mc_seen 13 rfl) fl_Mc_12 (by assumption) (by assumption) ?_
              first | refine wp_getIv (ck_get kk_Mc_seen 14 rfl) fl_Mc_191 (by assumption) (by assumption) ?_ | refine wp_getI (ck_get kk_Mc_seen 14 rfl) fl_Mc_191 (by assumption) ?_
              refine wp_bipush (v := nI 6) (by decide) (ck_get kk_Mc_seen 15 rfl) ?_
              first | refine wp_icmp_ltN (t := 43) (ck_get kk_Mc_seen 16 rfl) (by decide) (by omega) (by omega) (fun hc33 => ?_) (fun hc33 => ?_) | refine wp_icmp_lt (t := 43) (ck_get kk_Mc_seen 16 rfl) (by decide) (fun hc33 => ?_) (fun hc33 => ?_)
              · refine wp_aload_n rfl (ck_get kk_Mc_seen 21 rfl) ?_
                refine wp_getR (ck_get kk_Mc_seen 22 rfl) fl_Mc_12 (by assumption) (by assumption) ?_
                refine wp_getR (ck_get kk_Mc_seen 23 rfl) fl_Mc_345 (by assumption) (by assumption) ?_
                refine wp_aload_n rfl (ck_get kk_Mc_seen 24 rfl) ?_
                refine wp_getR (ck_get kk_Mc_seen 25 rfl) fl_Mc_12 (by assumption) (by assumption) ?_
                first | refine wp_getIv (ck_get kk_Mc_seen 26 rfl) fl_Mc_191 (by assumption) (by assumption) ?_ | refine wp_getI (ck_get kk_Mc_seen 26 rfl) fl_Mc_191 (by assumption) ?_
                refine wp_iload_n rfl (ck_get kk_Mc_seen 27 rfl) ?_
                refine wp_iast (ck_get kk_Mc_seen 28 rfl) (by assumption) (ixk_nI (k := sSn (zS z)) (by omega) (by omega)) ?_
                refine wp_aload_n rfl (ck_get kk_Mc_seen 29 rfl) ?_
                refine wp_getR (ck_get kk_Mc_seen 30 rfl) fl_Mc_12 (by assumption) (by assumption) ?_
                refine wp_getR (ck_get kk_Mc_seen 31 rfl) fl_Mc_348 (by assumption) (by assumption) ?_
                refine wp_aload_n rfl (ck_get kk_Mc_seen 32 rfl) ?_
                refine wp_getR (ck_get kk_Mc_seen 33 rfl) fl_Mc_12 (by assumption) (by assumption) ?_
                refine wp_getIv (v := nI (sSn (zS z))) (ck_get kk_Mc_seen 34 rfl) fl_Mc_191 (by assumption) ((congrFun (s_o (by omega)) 7).trans e7) ?_
                refine wp_iload_n rfl (ck_get kk_Mc_seen 35 rfl) ?_
                refine wp_iast (ck_get kk_Mc_seen 36 rfl) (by assumption) (ixk_nI (k := sSn (zS z)) (by omega) (by omega)) ?_
                refine wp_aload_n rfl (ck_get kk_Mc_seen 37 rfl) ?_
                refine wp_getR (ck_get kk_Mc_seen 38 rfl) fl_Mc_12 (by assumption) (by assumption) ?_
                refine wp_dup rfl (ck_get kk_Mc_seen 39 rfl) ?_
                refine wp_getIv (v := nI (sSn (zS z))) (ck_get kk_Mc_seen 40 rfl) fl_Mc_191 (by assumption) ((congrFun (s_o (by omega)) 7).trans ((congrFun (s_o (by omega)) 7).trans e7)) ?_
                refine wp_iconst (v := nI 1) (by decide) (ck_get kk_Mc_seen 41 rfl) ?_
                first | refine wp_iaddN (ck_get kk_Mc_seen 42 rfl) ?_ | refine wp_iadd (ck_get kk_Mc_seen 42 rfl) ?_
                refine wp_putI (ck_get kk_Mc_seen 43 rfl) fl_Mc_191 (by decide +kernel) (by assumption) (okI_int _) ?_
                refine wp_aload_n rfl (ck_get kk_Mc_seen 44 rfl) ?_
                refine wp_aload_n rfl (ck_get kk_Mc_seen 45 rfl) ?_
                refine wp_getR (ck_get kk_Mc_seen 46 rfl) fl_Mc_12 (by assumption) (by assumption) ?_
                refine wp_getIv (v := nI (sSn (zS z) + 1)) (ck_get kk_Mc_seen 47 rfl) fl_Mc_191 (by assumption) (s_v) ?_
                refine wp_cV1i (ck_get kk_Mc_seen 48 rfl) ml_Mc_185 (by omega) (Nat.le_of_ble_eq_true rfl) (by assumption) (Ci.to (c_accept (pf := pf) (pg := pg) (by exact hL)) ?_)
                rintro x M1 ⟨e1, e2⟩
                refine wp_ireturn (ck_get kk_Mc_seen 49 rfl) rfl rfl ⟨_, rfl, ?_⟩
                refine ⟨e1, ?_, ?_⟩
                · rw [e2]
                  refine CR.good (hCR.shop (I2 := up2 (up2 (up2 (mI M) 28 (sSn (zS z)) (nI j)) 29 (sSn (zS z)) (nI q)) 1 7 (nI (sSn (zS z) + 1))) (fun x _ a => ⟨by rw [up2_o (by omega), up2_o (by omega), up2_o (by omega)], rfl⟩) ?_)
                  obtain ⟨s1, s2, s3, s4, s5, s6, s7, s8, s9, s10, s11⟩ := hSC
                  generalize hI2 : up2 (up2 (up2 (mI M) 28 (sSn (zS z)) (nI j)) 29 (sSn (zS z)) (nI q)) 1 7 (nI (sSn (zS z) + 1)) = I2
                  have f1 : ∀ y, y ≠ 7 → I2 1 y = mI M 1 y := fun y hy => by rw [← hI2, up2_k hy, up2_o (by omega), up2_o (by omega)]
                  have f28 : ∀ y, I2 28 y = up1 (mI M 28) (sSn (zS z)) (nI j) y := fun y => by rw [← hI2, up2_o (by omega), up2_o (by omega), up2_up1, up1_eq]
                  have f29 : ∀ y, I2 29 y = up1 (mI M 29) (sSn (zS z)) (nI q) y := fun y => by rw [← hI2, up2_o (by omega), up2_up1, up1_eq, up2_o (by omega)]
                  have fx : ∀ x, x ≠ 1 → x ≠ 28 → x ≠ 29 → I2 x = mI M x := fun x a b d => by rw [← hI2, up2_o a, up2_o d, up2_o b]
                  have hk : HiK (mT M) (mR M) (mI M) (mT M) (mR M) I2 := HiK.same (fun x hx => fx x (by omega) (by omega) (by omega))
                  refine ⟨s1.kept (fun x q1 q2 => ⟨fx x (by omega) (by omega) (by omega), rfl⟩), by rw [f1 _ (by omega)]; exact s2, by rw [f1 _ (by omega)]; exact s3, by rw [f1 _ (by omega)]; exact s4, by rw [f1 _ (by omega)]; exact s5, by rw [← hI2, up2_v]; rfl, fun i hi => ?_, by rw [f1 _ (by omega)]; exact s8, by rw [f1 _ (by omega)]; exact s9, s10.kept rfl hk, fun i hi => ?_⟩
                  · show I2 28 i = nI (up1 (sSe (zS z)) (sSn (zS z)) (j, q) i).1 ∧ I2 29 i = nI (up1 (sSe (zS z)) (sSn (zS z)) (j, q) i).2
                    have hi2 : i < sSn (zS z) + 1 := hi
                    rw [f28, f29]
                    by_cases e : i = sSn (zS z)
                    · rw [e, up1_eq, up1_eq, up1_eq]; exact ⟨rfl, rfl⟩
                    · rw [up1_ne e, up1_ne e, up1_ne e]; exact s7 i (by omega)
                  · obtain ⟨p, q1, q2⟩ := s11 i hi
                    exact ⟨p, q1, q2.kept hk⟩
                · rw [e2]
                  exact (((MSame.s (by omega)).trans (MSame.s (by omega))).trans (MSame.s (by omega))).trans MSame.ac
              · omega
            · omega
      · skip
        obtain ⟨hM, hSM, hUM, hIM, hDM, hPM, hNM, hBM⟩ := id h
        have to0 := hM.1
        have rfkept := MoAt.r hM 1 rfl
        have tfkept := MoAt.t hM 1 rfl
        have e385 : mI M (1020 + 2) 385 = nI (sSn (zS z)) := hSM.2.2.2.2.2.2.1
        refine cw_entry 1 pf_Mo_seen rfl ?_
        refine wp_iload_n rfl (ck_get kk_Mo_seen 0 rfl) ?_
        refine wp_cS1i (ck_get kk_Mo_seen 1 rfl) ml_Mo_404 (by omega) (Nat.le_of_ble_eq_true rfl) (Ci.to (m_isSize) ?_)
        rintro _ M1 ⟨rfl, eqm1⟩
        obtain rfl := eqm1.symm
        rw [bw]
        first | refine wp_if_eqN (t := 18) (ck_get kk_Mo_seen 2 rfl) (by decide) (by omega) (fun hc4 => ?_) (fun hc4 => ?_) | refine wp_if_eq (t := 18) (ck_get kk_Mo_seen 2 rfl) (by decide) (fun hc4 => ?_) (fun hc4 => ?_)
        · exact absurd hc4 (by decide)
        · refine wp_iload_n rfl (ck_get kk_Mo_seen 3 rfl) ?_
          refine wp_iconst (v := nI 0) (by decide) (ck_get kk_Mo_seen 4 rfl) ?_
          refine wp_ldcw kl_Mo_494 (ck_get kk_Mo_seen 5 rfl) ?_
          rw [i9]
          refine wp_cS3i (ck_get kk_Mo_seen 6 rfl) ml_Mo_18 (by omega) (Nat.le_of_ble_eq_true rfl) (Ci.to (m_lies (by omega)) ?_)
          rintro _ M1 ⟨rfl, eqm1⟩
          obtain rfl := eqm1.symm
          rw [bv]
          first | refine wp_if_neN (t := 24) (ck_get kk_Mo_seen 7 rfl) (by decide) (by omega) (fun hc15 => ?_) (fun hc15 => ?_) | refine wp_if_ne (t := 24) (ck_get kk_Mo_seen 7 rfl) (by decide) (fun hc15 => ?_) (fun hc15 => ?_)
          · refine wp_sipush (v := nI 370) (by decide) (ck_get kk_Mo_seen 12 rfl) ?_
            refine wp_iconst (v := nI 2) (by decide) (ck_get kk_Mo_seen 13 rfl) ?_
            refine wp_aload_n rfl (ck_get kk_Mo_seen 14 rfl) ?_
            refine wp_getR (ck_get kk_Mo_seen 15 rfl) fl_Mo_28 (by assumption) (by assumption) ?_
            refine wp_sipush (v := nI 385) (by decide) (ck_get kk_Mo_seen 16 rfl) ?_
            refine wp_ialdv (v := nI (sSn (zS z))) (ck_get kk_Mo_seen 17 rfl) (by assumption) (ixk_nI (k := 385) (by omega) (by omega)) (e385) ?_
            first | refine wp_imulN (ck_get kk_Mo_seen 18 rfl) ?_ | refine wp_imul (ck_get kk_Mo_seen 18 rfl) ?_
            first | refine wp_iaddN (ck_get kk_Mo_seen 19 rfl) ?_ | refine wp_iadd (ck_get kk_Mo_seen 19 rfl) ?_
            refine wp_istore_n (ck_get kk_Mo_seen 20 rfl) (by decide) rfl ?_
            refine wp_aload_n rfl (ck_get kk_Mo_seen 21 rfl) ?_
            refine wp_getR (ck_get kk_Mo_seen 22 rfl) fl_Mo_28 (by assumption) (by assumption) ?_
            refine wp_sipush (v := nI 385) (by decide) (ck_get kk_Mo_seen 23 rfl) ?_
            refine wp_ialdv (v := nI (sSn (zS z))) (ck_get kk_Mo_seen 24 rfl) (by assumption) (ixk_nI (k := 385) (by omega) (by omega)) (e385) ?_
            refine wp_bipush (v := nI 6) (by decide) (ck_get kk_Mo_seen 25 rfl) ?_
            first | refine wp_icmp_neN (t := 59) (ck_get kk_Mo_seen 26 rfl) (by decide) (by omega) (by omega) (fun hc49 => ?_) (fun hc49 => ?_) | refine wp_icmp_ne (t := 59) (ck_get kk_Mo_seen 26 rfl) (by decide) (fun hc49 => ?_) (fun hc49 => ?_)
            · refine wp_aload_n rfl (ck_get kk_Mo_seen 31 rfl) ?_
              refine wp_getR (ck_get kk_Mo_seen 32 rfl) fl_Mo_28 (by assumption) (by assumption) ?_
              refine wp_iload_n rfl (ck_get kk_Mo_seen 33 rfl) ?_
              refine wp_iload_n rfl (ck_get kk_Mo_seen 34 rfl) ?_
              refine wp_iast (ck_get kk_Mo_seen 35 rfl) (by assumption) (ixk_nI (k := 370 + 2 * sSn (zS z)) (by omega) (by omega)) ?_
              refine wp_aload_n rfl (ck_get kk_Mo_seen 36 rfl) ?_
              refine wp_getR (ck_get kk_Mo_seen 37 rfl) fl_Mo_28 (by assumption) (by assumption) ?_
              refine wp_iload_n rfl (ck_get kk_Mo_seen 38 rfl) ?_
              refine wp_iconst (v := nI 1) (by decide) (ck_get kk_Mo_seen 39 rfl) ?_
              first | refine wp_iaddN (ck_get kk_Mo_seen 40 rfl) ?_ | refine wp_iadd (ck_get kk_Mo_seen 40 rfl) ?_
              refine wp_iload_n rfl (ck_get kk_Mo_seen 41 rfl) ?_
              refine wp_iast (ck_get kk_Mo_seen 42 rfl) (by assumption) (ixk_nI (k := 370 + 2 * sSn (zS z) + 1) (by omega) (by omega)) ?_
              refine wp_aload_n rfl (ck_get kk_Mo_seen 43 rfl) ?_
              refine wp_getR (ck_get kk_Mo_seen 44 rfl) fl_Mo_28 (by assumption) (by assumption) ?_
              refine wp_sipush (v := nI 385) (by decide) (ck_get kk_Mo_seen 45 rfl) ?_
              first | refine wp_dup2l rfl (ck_get kk_Mo_seen 46 rfl) ?_ | refine wp_dup2 rfl rfl (ck_get kk_Mo_seen 46 rfl) ?_
              refine wp_ialdv (v := nI (sSn (zS z))) (ck_get kk_Mo_seen 47 rfl) (by assumption) (ixk_nI (k := 385) (by omega) (by omega)) (show up2 (up2 (mI M) (1020 + 2) (370 + 2 * sSn (zS z)) _) (1020 + 2) (370 + 2 * sSn (zS z) + 1) _ (1020 + 2) 385 = _ by rw [up2_k (by omega), up2_k (by omega)]; exact e385) ?_
              refine wp_iconst (v := nI 1) (by decide) (ck_get kk_Mo_seen 48 rfl) ?_
              first | refine wp_iaddN (ck_get kk_Mo_seen 49 rfl) ?_ | refine wp_iadd (ck_get kk_Mo_seen 49 rfl) ?_
              refine wp_iast (ck_get kk_Mo_seen 50 rfl) (by assumption) (ixk_nI (k := 385) (by omega) (by omega)) ?_
              refine wp_aload_n rfl (ck_get kk_Mo_seen 51 rfl) ?_
              refine wp_aload_n rfl (ck_get kk_Mo_seen 52 rfl) ?_
              refine wp_getR (ck_get kk_Mo_seen 53 rfl) fl_Mo_28 (by assumption) (by assumption) ?_
              refine wp_sipush (v := nI 385) (by decide) (ck_get kk_Mo_seen 54 rfl) ?_
              refine wp_ialdv (v := nI (sSn (zS z) + 1)) (ck_get kk_Mo_seen 55 rfl) (by assumption) (ixk_nI (k := 385) (by omega) (by omega)) (s_v) ?_
              refine wp_cV1i (ck_get kk_Mo_seen 56 rfl) ml_Mo_14 (by omega) (Nat.le_of_ble_eq_true rfl) (by assumption) (Ci.to (m_good (by exact hM)) ?_)
              rintro x M1 ⟨e1, e2⟩
              refine wp_ireturn (ck_get kk_Mo_seen 57 rfl) rfl rfl ⟨_, rfl, ?_⟩
              refine ⟨e1, ?_, ?_⟩
              · rw [e2]
                refine MR.good (h.shop (I2 := up2 (up2 (up2 (mI M) (1020 + 2) (370 + 2 * sSn (zS z)) (nI j)) (1020 + 2) (370 + 2 * sSn (zS z) + 1) (nI q)) (1020 + 2) 385 (nI (sSn (zS z) + 1))) (fun x a => by rw [up2_o (by unfold moK at a; omega), up2_o (by unfold moK at a; omega), up2_o (by unfold moK at a; omega)]) (fun x _ => rfl) (fun k _ => by rw [up2_o (by omega), up2_o (by omega), up2_o (by omega)]) (by rw [up2_o (by omega), up2_o (by omega), up2_o (by omega)]; exact hNM.2.2.2.2.1) ?_)
                obtain ⟨s1, s2, s3, s4, s5, s6, s7, s8, s9, s10⟩ := hSM
                have eK : ∀ y, y ≠ 385 → y ≠ 370 + 2 * sSn (zS z) → y ≠ 370 + 2 * sSn (zS z) + 1 → up2 (up2 (up2 (mI M) (1020 + 2) (370 + 2 * sSn (zS z)) (nI j)) (1020 + 2) (370 + 2 * sSn (zS z) + 1) (nI q)) (1020 + 2) 385 (nI (sSn (zS z) + 1)) 1022 y = mI M 1022 y := fun y a b d => by
                  rw [show (1022 : Nat) = 1020 + 2 from rfl, up2_k a, up2_k d, up2_k b]
                refine ⟨s1.kept hO.1.1 (fun x a b => eK x (by omega) (by omega) (by omega)) (fun x _ _ => rfl), by rw [eK _ (by omega) (by omega) (by omega)]; exact s2, fun i hi => ?_, by rw [eK _ (by omega) (by omega) (by omega)]; exact s4, by rw [eK _ (by omega) (by omega) (by omega)]; exact s5, by rw [eK _ (by omega) (by omega) (by omega)]; exact s6, up2_v, by rw [eK _ (by omega) (by omega) (by omega)]; exact s8, by rw [eK _ (by omega) (by omega) (by omega)]; exact s9, fun i hi => (s10 i hi).kept (Nat.lt_of_lt_of_le hi (Nat.le_trans hln (by omega))) (fun x a => eK x (by omega) (by omega) (by omega)) rfl⟩
                have hi2 : i < sSn (zS z) + 1 := hi
                show _ = nI (up1 (sSe (zS z)) (sSn (zS z)) (j, q) i).1 ∧ _ = nI (up1 (sSe (zS z)) (sSn (zS z)) (j, q) i).2
                by_cases e : i = sSn (zS z)
                · subst e
                  rw [up1_eq, show (1022 : Nat) = 1020 + 2 from rfl, up2_k (by omega), up2_k (by omega), up2_v, up2_k (by omega), show 371 + 2 * sSn (zS z) = 370 + 2 * sSn (zS z) + 1 by omega, up2_v]
                  exact ⟨rfl, rfl⟩
                · rw [up1_ne e, eK _ (by omega) (by omega) (by omega), eK _ (by omega) (by omega) (by omega)]; exact s3 i (by omega)
              · rw [e2]
                exact (((CSame.s (by omega)).trans (CSame.s (by omega))).trans (CSame.s (by omega))).trans CSame.gd
            · omega
          · exact absurd hc15 (by decide)
  · have hno : inB w 25 = true → ¬ v < nI 0 → ¬ nI 99999 < v → False := fun q a b => by
      rcases i32c v 100000 (by omega) with ⟨j, hj, rfl⟩ | e
      · exact hin ⟨q, inB_nI hj (by omega)⟩
      · exact i32o e 0 99999 rfl (by omega) (by omega) a b
    refine ⟨-1, zBad z 1, (hO.le (Nat.le_succ c)).bad, fun M h => ?_, fun M h => ?_⟩
    · skip
      have hC' := h.le (Nat.le_succ c)
      obtain ⟨pf, pg, hL, hSC, hTC, hIC, hDC, hPC, hNC, hBC, hZC⟩ := h
      obtain ⟨t0, ⟨r00, hSh⟩, ⟨r01, hTr⟩, ⟨r02, hTg⟩, ⟨r03, hWa⟩, ⟨r04, hWp⟩, ⟨r06, t921, r921a, r921b, hS0, hS1⟩, ⟨r07, t922⟩, ⟨r08, t923⟩, ⟨r010, hPa⟩, ⟨r011, hJu⟩, ⟨r012, hRe⟩, ⟨r013, hCu⟩, ⟨r014, hDe⟩, ⟨r018, t959⟩, hPf⟩ := id hL
      have t1 : mT M 1 = (6, 0) := hSh.1
      have r10 : mR M 1 0 = some 2 := hSh.2.1
      have hW2 : WoAt (mT M) (mR M) 2 := hSh.2.2.1
      have t2 : mT M 2 = (9, 0) := hW2.1
      have r20 : mR M 2 0 = some 3 := hW2.2.1
      have t3 : mT M 3 = (24, 4) := hW2.2.2.1
      have t31 : mT M 31 = (8, 0) := hTr.1
      have t924 : mT M 924 = (3, 0) := hPa.1
      have t934 : mT M 934 = (2, 0) := hJu.1
      have t938 : mT M 938 = (5, 0) := hRe.1
      have t947 : mT M 947 = (0, 0) := hCu.1
      have t952 : mT M 952 = (1, 0) := hDe.1
      refine cw_entry 0 pf_Mc_seen rfl ?_
      refine wp_iload_n rfl (ck_get kk_Mc_seen 0 rfl) ?_
      refine wp_cS1i (ck_get kk_Mc_seen 1 rfl) ml_Mc_275 (by omega) (Nat.le_of_ble_eq_true rfl) (Ci.to (c_isSize) ?_)
      rintro _ M1 ⟨rfl, eqm1⟩
      obtain rfl := eqm1.symm
      refine wp_if_eq (t := 18) (ck_get kk_Mc_seen 2 rfl) (by decide) (fun hc4 => ?_) (fun hc4 => ?_)
      · refine wp_aload_n rfl (ck_get kk_Mc_seen 8 rfl) ?_
        refine wp_iconst (v := (-1)) (by decide) (ck_get kk_Mc_seen 9 rfl) ?_
        refine wp_cV1i (ck_get kk_Mc_seen 10 rfl) ml_Mc_172 (by omega) (Nat.le_of_ble_eq_true rfl) (by assumption) (Ci.to (c_refuse (k := 1) (by decide) (by omega) (by omega) hL) ?_)
        rintro x M1 ⟨e1, e2⟩
        refine wp_ireturn (ck_get kk_Mc_seen 11 rfl) rfl rfl ⟨_, rfl, ?_⟩
        exact ⟨e1, by rw [e2]; exact hC'.bad (by omega), by rw [e2]; exact MSame.bd⟩
      · refine wp_iload_n rfl (ck_get kk_Mc_seen 3 rfl) ?_
        refine wp_if_lt (t := 18) (ck_get kk_Mc_seen 4 rfl) (by decide) (fun hc8 => ?_) (fun hc8 => ?_)
        · refine wp_aload_n rfl (ck_get kk_Mc_seen 8 rfl) ?_
          refine wp_iconst (v := (-1)) (by decide) (ck_get kk_Mc_seen 9 rfl) ?_
          refine wp_cV1i (ck_get kk_Mc_seen 10 rfl) ml_Mc_172 (by omega) (Nat.le_of_ble_eq_true rfl) (by assumption) (Ci.to (c_refuse (k := 1) (by decide) (by omega) (by omega) hL) ?_)
          rintro x M1 ⟨e1, e2⟩
          refine wp_ireturn (ck_get kk_Mc_seen 11 rfl) rfl rfl ⟨_, rfl, ?_⟩
          exact ⟨e1, by rw [e2]; exact hC'.bad (by omega), by rw [e2]; exact MSame.bd⟩
        · refine wp_iload_n rfl (ck_get kk_Mc_seen 5 rfl) ?_
          refine wp_ldcw kl_Mc_344 (ck_get kk_Mc_seen 6 rfl) ?_
          rw [i9]
          refine wp_icmp_le (t := 24) (ck_get kk_Mc_seen 7 rfl) (by decide) (fun hc15 => ?_) (fun hc15 => ?_)
          · exact (hno (bI_1 hc4) hc8 (fun h => by have a := Int32.lt_iff_toInt_lt.mp h; have b := Int32.le_iff_toInt_le.mp hc15; omega)).elim
          · refine wp_aload_n rfl (ck_get kk_Mc_seen 8 rfl) ?_
            refine wp_iconst (v := (-1)) (by decide) (ck_get kk_Mc_seen 9 rfl) ?_
            refine wp_cV1i (ck_get kk_Mc_seen 10 rfl) ml_Mc_172 (by omega) (Nat.le_of_ble_eq_true rfl) (by assumption) (Ci.to (c_refuse (k := 1) (by decide) (by omega) (by omega) hL) ?_)
            rintro x M1 ⟨e1, e2⟩
            refine wp_ireturn (ck_get kk_Mc_seen 11 rfl) rfl rfl ⟨_, rfl, ?_⟩
            exact ⟨e1, by rw [e2]; exact hC'.bad (by omega), by rw [e2]; exact MSame.bd⟩
    · skip
      obtain ⟨hM, hSM, hUM, hIM, hDM, hPM, hNM, hBM⟩ := id h
      have to0 := hM.1
      refine cw_entry 1 pf_Mo_seen rfl ?_
      refine wp_iload_n rfl (ck_get kk_Mo_seen 0 rfl) ?_
      refine wp_cS1i (ck_get kk_Mo_seen 1 rfl) ml_Mo_404 (by omega) (Nat.le_of_ble_eq_true rfl) (Ci.to (m_isSize) ?_)
      rintro _ M1 ⟨rfl, eqm1⟩
      obtain rfl := eqm1.symm
      refine wp_if_eq (t := 18) (ck_get kk_Mo_seen 2 rfl) (by decide) (fun hc4 => ?_) (fun hc4 => ?_)
      · refine wp_aload_n rfl (ck_get kk_Mo_seen 8 rfl) ?_
        refine wp_iconst (v := (-1)) (by decide) (ck_get kk_Mo_seen 9 rfl) ?_
        refine wp_cV1i (ck_get kk_Mo_seen 10 rfl) ml_Mo_146 (by omega) (Nat.le_of_ble_eq_true rfl) (by assumption) (Ci.to (m_refusesV (c := 1) (by decide) hM (by omega)) ?_)
        rintro x M1 ⟨e1, e2⟩
        refine wp_ireturn (ck_get kk_Mo_seen 11 rfl) rfl rfl ⟨_, rfl, ?_⟩
        exact ⟨e1, by rw [e2]; exact h.bad (by omega), by rw [e2]; exact CSame.rf⟩
      · refine wp_iload_n rfl (ck_get kk_Mo_seen 3 rfl) ?_
        refine wp_iconst (v := nI 0) (by decide) (ck_get kk_Mo_seen 4 rfl) ?_
        refine wp_ldcw kl_Mo_494 (ck_get kk_Mo_seen 5 rfl) ?_
        rw [i9]
        refine wp_cS3i (ck_get kk_Mo_seen 6 rfl) ml_Mo_18 (by omega) (Nat.le_of_ble_eq_true rfl) (Ci.to (m_lies (by omega)) ?_)
        rintro _ M1 ⟨rfl, eqm1⟩
        obtain rfl := eqm1.symm
        refine wp_if_ne (t := 24) (ck_get kk_Mo_seen 7 rfl) (by decide) (fun hc15 => ?_) (fun hc15 => ?_)
        · exact absurd ⟨bI_1 hc4, bI_1 hc15⟩ hin
        · refine wp_aload_n rfl (ck_get kk_Mo_seen 8 rfl) ?_
          refine wp_iconst (v := (-1)) (by decide) (ck_get kk_Mo_seen 9 rfl) ?_
          refine wp_cV1i (ck_get kk_Mo_seen 10 rfl) ml_Mo_146 (by omega) (Nat.le_of_ble_eq_true rfl) (by assumption) (Ci.to (m_refusesV (c := 1) (by decide) hM (by omega)) ?_)
          rintro x M1 ⟨e1, e2⟩
          refine wp_ireturn (ck_get kk_Mo_seen 11 rfl) rfl rfl ⟨_, rfl, ?_⟩
          exact ⟨e1, by rw [e2]; exact h.bad (by omega), by rw [e2]; exact CSame.rf⟩
end SEN
