/-! ===== of, top, end, count ===== -/
section OFT
variable {g : Gl}
theorem i32o {x : Int32} {n : Nat} (h : inB x n = false ∧ (x.toInt < 0 ∨ (n : Int) ≤ x.toInt)) (a b : Nat) (hb : b + 1 = n) (ha : a < 2147483648) (hn : n < 2147483648) (h1 : ¬ x < nI a) (h2 : ¬ nI b < x) : False := by
  have q1 := mt Int32.lt_iff_toInt_lt.mpr h1
  have q2 := mt Int32.lt_iff_toInt_lt.mpr h2
  rw [nI_toInt (by omega)] at q1 q2
  omega
theorem b_of {t w : Int32} : Both g Y_Mc_of Y_Mo_of [.int t, .int w] := by
  intro c z hc hO
  rcases i32c t 4 (by omega) with ⟨k, ht, rfl⟩ | ⟨bt, hx⟩
  · have bt := inB_nI ht (n := 4) (by omega)
    have hTO := hO.1.1.2 k ht
    rcases i32c w 4 (by omega) with ⟨j, hj, rfl⟩ | ⟨bw, hw⟩
    · rcases (show j = 0 ∨ j = 1 ∨ j = 2 ∨ j = 3 by omega) with rfl | rfl | rfl | rfl
      · refine ⟨nI (tSt ((sWo (zS z)).2 k)).length, z, hO.le (by omega), fun M h => ?_, fun M h => ?_⟩
        · skip
          have hC' := h.le (Nat.le_succ c)
          obtain ⟨pf, pg, hL, hSC, hTC, hIC, hDC, hPC, hNC, hBC, hZC⟩ := h
          obtain ⟨t0, ⟨r00, hSh⟩, ⟨r01, hTr⟩, ⟨r02, hTg⟩, ⟨r03, hWa⟩, ⟨r04, hWp⟩, ⟨r06, t921, r921a, r921b, hS0, hS1⟩, ⟨r07, t922⟩, ⟨r08, t923⟩, ⟨r010, hPa⟩, ⟨r011, hJu⟩, ⟨r012, hRe⟩, ⟨r013, hCu⟩, ⟨r014, hDe⟩, ⟨r018, t959⟩, hPf⟩ := id hL
          have t1 : mT M 1 = (6, 0) := hSh.1
          have r10 : mR M 1 0 = some 2 := hSh.2.1
          have hW2 : WoAt (mT M) (mR M) 2 := hSh.2.2.1
          have t2 : mT M 2 = (9, 0) := hW2.1
          have r20 : mR M 2 0 = some 3 := hW2.2.1
          have t3 : mT M 3 = (24, 4) := hW2.2.2.1
          have t31 : mT M 31 = (8, 0) := hTr.1
          have t924 : mT M 924 = (3, 0) := hPa.1
          have t934 : mT M 934 = (2, 0) := hJu.1
          have t938 : mT M 938 = (5, 0) := hRe.1
          have t947 : mT M 947 = (0, 0) := hCu.1
          have t952 : mT M 952 = (1, 0) := hDe.1
          have rTe : mR M 3 k = some (4 + 6 * k) := (hW2.2.2.2 k ht).1
          have hTA : TeAt (mT M) (mR M) (4 + 6 * k) := (hW2.2.2.2 k ht).2
          have hTH : TeHas (mI M) (mJ M) (4 + 6 * k) ((sWo (zS z)).2 k) := hSC.1.2 k ht
          have tTe := hTA.1
          have e := hTH.1
          refine cw_entry 1 pf_Mc_of rfl ?_
          refine wp_iload_n rfl (ck_get kk_Mc_of 0 rfl) ?_
          refine wp_cS1i (ck_get kk_Mc_of 1 rfl) ml_Mc_103 (by omega) (Nat.le_of_ble_eq_true rfl) (Ci.to (c_isTenant) ?_)
          rintro _ M1 ⟨rfl, eqm1⟩
          obtain rfl := eqm1.symm
          rw [bt]
          first | refine wp_if_neN (t := 9) (ck_get kk_Mc_of 2 rfl) (by decide) (by omega) (fun hc4 => ?_) (fun hc4 => ?_) | refine wp_if_ne (t := 9) (ck_get kk_Mc_of 2 rfl) (by decide) (fun hc4 => ?_) (fun hc4 => ?_)
          · refine wp_aload_n rfl (ck_get kk_Mc_of 5 rfl) ?_
            refine wp_getR (ck_get kk_Mc_of 6 rfl) fl_Mc_12 (by assumption) (by assumption) ?_
            refine wp_getR (ck_get kk_Mc_of 7 rfl) fl_Mc_107 (by assumption) (by assumption) ?_
            refine wp_getR (ck_get kk_Mc_of 8 rfl) fl_Mc_110 (by assumption) (by assumption) ?_
            refine wp_iload_n rfl (ck_get kk_Mc_of 9 rfl) ?_
            refine wp_aald (ck_get kk_Mc_of 10 rfl) (by assumption) (by first | assumption | exact ixk_nI (by omega) (by omega)) (by assumption) ?_
            refine wp_astore_n (ck_get kk_Mc_of 11 rfl) (by decide) rfl ?_
            refine wp_iload_n rfl (ck_get kk_Mc_of 12 rfl) ?_
            refine wp_tabIn (t := 52) (off := 29) (ck_get kk_Mc_of 13 rfl) (by decide) (by decide) rfl (by decide) ?_
            refine wp_aload_n rfl (ck_get kk_Mc_of 14 rfl) ?_
            first | refine wp_getIv (ck_get kk_Mc_of 15 rfl) fl_Mc_114 (by assumption) (by assumption) ?_ | refine wp_getI (ck_get kk_Mc_of 15 rfl) fl_Mc_114 (by assumption) ?_
            refine wp_ireturn (ck_get kk_Mc_of 16 rfl) rfl rfl ⟨_, rfl, ?_⟩
            exact ⟨rfl, hC', MSame.refl _⟩
          · exact absurd hc4 (by decide)
        · skip
          obtain ⟨hM, hSM, hUM, hIM, hDM, hPM, hNM, hBM⟩ := id h
          have to0 := hM.1
          have rfkept := MoAt.r hM 1 rfl
          have tfkept := MoAt.t hM 1 rfl
          have e : mI M (1020 + 2) (92 * k + 0) = nI (tSt ((sWo (zS z)).2 k)).length := (hSM.1.t (b := 0) (pb := 0) ht).1.1
          refine cw_entry 0 pf_Mo_of rfl ?_
          refine wp_iload_n rfl (ck_get kk_Mo_of 0 rfl) ?_
          refine wp_cS1i (ck_get kk_Mo_of 1 rfl) ml_Mo_152 (by omega) (Nat.le_of_ble_eq_true rfl) (Ci.to (m_isTenant) ?_)
          rintro _ M1 ⟨rfl, eqm1⟩
          obtain rfl := eqm1.symm
          rw [bt]
          first | refine wp_if_neN (t := 9) (ck_get kk_Mo_of 2 rfl) (by decide) (by omega) (fun hc4 => ?_) (fun hc4 => ?_) | refine wp_if_ne (t := 9) (ck_get kk_Mo_of 2 rfl) (by decide) (fun hc4 => ?_) (fun hc4 => ?_)
          · refine wp_iload_n rfl (ck_get kk_Mo_of 5 rfl) ?_
            refine wp_tabIn (t := 40) (off := 30) (ck_get kk_Mo_of 6 rfl) (by decide) (by decide) rfl (by decide) ?_
            refine wp_aload_n rfl (ck_get kk_Mo_of 7 rfl) ?_
            refine wp_getR (ck_get kk_Mo_of 8 rfl) fl_Mo_28 (by assumption) (by assumption) ?_
            refine wp_iload_n rfl (ck_get kk_Mo_of 9 rfl) ?_
            refine wp_iconst (v := nI 0) (by decide) (ck_get kk_Mo_of 10 rfl) ?_
            refine wp_cS2i (ck_get kk_Mo_of 11 rfl) ml_Mo_142 (by omega) (Nat.le_of_ble_eq_true rfl) (Ci.to (m_at) ?_)
            rintro _ M1 ⟨rfl, eqm1⟩
            obtain rfl := eqm1.symm
            refine wp_ialdv (v := nI (tSt ((sWo (zS z)).2 k)).length) (ck_get kk_Mo_of 12 rfl) (by assumption) (ixk_nI (k := 92 * k + 0) (by omega) (by omega)) (e) ?_
            refine wp_ireturn (ck_get kk_Mo_of 13 rfl) rfl rfl ⟨_, rfl, ?_⟩
            exact ⟨rfl, h, CSame.refl _⟩
          · exact absurd hc4 (by decide)
      · refine ⟨nI (tSa ((sWo (zS z)).2 k)).length, z, hO.le (by omega), fun M h => ?_, fun M h => ?_⟩
        · skip
          have hC' := h.le (Nat.le_succ c)
          obtain ⟨pf, pg, hL, hSC, hTC, hIC, hDC, hPC, hNC, hBC, hZC⟩ := h
          obtain ⟨t0, ⟨r00, hSh⟩, ⟨r01, hTr⟩, ⟨r02, hTg⟩, ⟨r03, hWa⟩, ⟨r04, hWp⟩, ⟨r06, t921, r921a, r921b, hS0, hS1⟩, ⟨r07, t922⟩, ⟨r08, t923⟩, ⟨r010, hPa⟩, ⟨r011, hJu⟩, ⟨r012, hRe⟩, ⟨r013, hCu⟩, ⟨r014, hDe⟩, ⟨r018, t959⟩, hPf⟩ := id hL
          have t1 : mT M 1 = (6, 0) := hSh.1
          have r10 : mR M 1 0 = some 2 := hSh.2.1
          have hW2 : WoAt (mT M) (mR M) 2 := hSh.2.2.1
          have t2 : mT M 2 = (9, 0) := hW2.1
          have r20 : mR M 2 0 = some 3 := hW2.2.1
          have t3 : mT M 3 = (24, 4) := hW2.2.2.1
          have t31 : mT M 31 = (8, 0) := hTr.1
          have t924 : mT M 924 = (3, 0) := hPa.1
          have t934 : mT M 934 = (2, 0) := hJu.1
          have t938 : mT M 938 = (5, 0) := hRe.1
          have t947 : mT M 947 = (0, 0) := hCu.1
          have t952 : mT M 952 = (1, 0) := hDe.1
          have rTe : mR M 3 k = some (4 + 6 * k) := (hW2.2.2.2 k ht).1
          have hTA : TeAt (mT M) (mR M) (4 + 6 * k) := (hW2.2.2.2 k ht).2
          have hTH : TeHas (mI M) (mJ M) (4 + 6 * k) ((sWo (zS z)).2 k) := hSC.1.2 k ht
          have tTe := hTA.1
          have e := hTH.2.2.2.1
          refine cw_entry 1 pf_Mc_of rfl ?_
          refine wp_iload_n rfl (ck_get kk_Mc_of 0 rfl) ?_
          refine wp_cS1i (ck_get kk_Mc_of 1 rfl) ml_Mc_103 (by omega) (Nat.le_of_ble_eq_true rfl) (Ci.to (c_isTenant) ?_)
          rintro _ M1 ⟨rfl, eqm1⟩
          obtain rfl := eqm1.symm
          rw [bt]
          first | refine wp_if_neN (t := 9) (ck_get kk_Mc_of 2 rfl) (by decide) (by omega) (fun hc4 => ?_) (fun hc4 => ?_) | refine wp_if_ne (t := 9) (ck_get kk_Mc_of 2 rfl) (by decide) (fun hc4 => ?_) (fun hc4 => ?_)
          · refine wp_aload_n rfl (ck_get kk_Mc_of 5 rfl) ?_
            refine wp_getR (ck_get kk_Mc_of 6 rfl) fl_Mc_12 (by assumption) (by assumption) ?_
            refine wp_getR (ck_get kk_Mc_of 7 rfl) fl_Mc_107 (by assumption) (by assumption) ?_
            refine wp_getR (ck_get kk_Mc_of 8 rfl) fl_Mc_110 (by assumption) (by assumption) ?_
            refine wp_iload_n rfl (ck_get kk_Mc_of 9 rfl) ?_
            refine wp_aald (ck_get kk_Mc_of 10 rfl) (by assumption) (by first | assumption | exact ixk_nI (by omega) (by omega)) (by assumption) ?_
            refine wp_astore_n (ck_get kk_Mc_of 11 rfl) (by decide) rfl ?_
            refine wp_iload_n rfl (ck_get kk_Mc_of 12 rfl) ?_
            refine wp_tabIn (t := 57) (off := 34) (ck_get kk_Mc_of 13 rfl) (by decide) (by decide) rfl (by decide) ?_
            refine wp_aload_n rfl (ck_get kk_Mc_of 17 rfl) ?_
            first | refine wp_getIv (ck_get kk_Mc_of 18 rfl) fl_Mc_119 (by assumption) (by assumption) ?_ | refine wp_getI (ck_get kk_Mc_of 18 rfl) fl_Mc_119 (by assumption) ?_
            refine wp_ireturn (ck_get kk_Mc_of 19 rfl) rfl rfl ⟨_, rfl, ?_⟩
            exact ⟨rfl, hC', MSame.refl _⟩
          · exact absurd hc4 (by decide)
        · skip
          obtain ⟨hM, hSM, hUM, hIM, hDM, hPM, hNM, hBM⟩ := id h
          have to0 := hM.1
          have rfkept := MoAt.r hM 1 rfl
          have tfkept := MoAt.t hM 1 rfl
          have e : mI M (1020 + 2) (92 * k + 50) = nI (tSa ((sWo (zS z)).2 k)).length := (hSM.1.t (b := 0) (pb := 0) ht).2.2.1.1
          refine cw_entry 0 pf_Mo_of rfl ?_
          refine wp_iload_n rfl (ck_get kk_Mo_of 0 rfl) ?_
          refine wp_cS1i (ck_get kk_Mo_of 1 rfl) ml_Mo_152 (by omega) (Nat.le_of_ble_eq_true rfl) (Ci.to (m_isTenant) ?_)
          rintro _ M1 ⟨rfl, eqm1⟩
          obtain rfl := eqm1.symm
          rw [bt]
          first | refine wp_if_neN (t := 9) (ck_get kk_Mo_of 2 rfl) (by decide) (by omega) (fun hc4 => ?_) (fun hc4 => ?_) | refine wp_if_ne (t := 9) (ck_get kk_Mo_of 2 rfl) (by decide) (fun hc4 => ?_) (fun hc4 => ?_)
          · refine wp_iload_n rfl (ck_get kk_Mo_of 5 rfl) ?_
            refine wp_tabIn (t := 51) (off := 41) (ck_get kk_Mo_of 6 rfl) (by decide) (by decide) rfl (by decide) ?_
            refine wp_aload_n rfl (ck_get kk_Mo_of 14 rfl) ?_
            refine wp_getR (ck_get kk_Mo_of 15 rfl) fl_Mo_28 (by assumption) (by assumption) ?_
            refine wp_iload_n rfl (ck_get kk_Mo_of 16 rfl) ?_
            refine wp_bipush (v := nI 50) (by decide) (ck_get kk_Mo_of 17 rfl) ?_
            refine wp_cS2i (ck_get kk_Mo_of 18 rfl) ml_Mo_142 (by omega) (Nat.le_of_ble_eq_true rfl) (Ci.to (m_at) ?_)
            rintro _ M1 ⟨rfl, eqm1⟩
            obtain rfl := eqm1.symm
            refine wp_ialdv (v := nI (tSa ((sWo (zS z)).2 k)).length) (ck_get kk_Mo_of 19 rfl) (by assumption) (ixk_nI (k := 92 * k + 50) (by omega) (by omega)) (e) ?_
            refine wp_ireturn (ck_get kk_Mo_of 20 rfl) rfl rfl ⟨_, rfl, ?_⟩
            exact ⟨rfl, h, CSame.refl _⟩
          · exact absurd hc4 (by decide)
      · refine ⟨nI (tLi ((sWo (zS z)).2 k)), z, hO.le (by omega), fun M h => ?_, fun M h => ?_⟩
        · skip
          have hC' := h.le (Nat.le_succ c)
          obtain ⟨pf, pg, hL, hSC, hTC, hIC, hDC, hPC, hNC, hBC, hZC⟩ := h
          obtain ⟨t0, ⟨r00, hSh⟩, ⟨r01, hTr⟩, ⟨r02, hTg⟩, ⟨r03, hWa⟩, ⟨r04, hWp⟩, ⟨r06, t921, r921a, r921b, hS0, hS1⟩, ⟨r07, t922⟩, ⟨r08, t923⟩, ⟨r010, hPa⟩, ⟨r011, hJu⟩, ⟨r012, hRe⟩, ⟨r013, hCu⟩, ⟨r014, hDe⟩, ⟨r018, t959⟩, hPf⟩ := id hL
          have t1 : mT M 1 = (6, 0) := hSh.1
          have r10 : mR M 1 0 = some 2 := hSh.2.1
          have hW2 : WoAt (mT M) (mR M) 2 := hSh.2.2.1
          have t2 : mT M 2 = (9, 0) := hW2.1
          have r20 : mR M 2 0 = some 3 := hW2.2.1
          have t3 : mT M 3 = (24, 4) := hW2.2.2.1
          have t31 : mT M 31 = (8, 0) := hTr.1
          have t924 : mT M 924 = (3, 0) := hPa.1
          have t934 : mT M 934 = (2, 0) := hJu.1
          have t938 : mT M 938 = (5, 0) := hRe.1
          have t947 : mT M 947 = (0, 0) := hCu.1
          have t952 : mT M 952 = (1, 0) := hDe.1
          have rTe : mR M 3 k = some (4 + 6 * k) := (hW2.2.2.2 k ht).1
          have hTA : TeAt (mT M) (mR M) (4 + 6 * k) := (hW2.2.2.2 k ht).2
          have hTH : TeHas (mI M) (mJ M) (4 + 6 * k) ((sWo (zS z)).2 k) := hSC.1.2 k ht
          have tTe := hTA.1
          have e := hTH.2.2.2.2.2.1
          refine cw_entry 1 pf_Mc_of rfl ?_
          refine wp_iload_n rfl (ck_get kk_Mc_of 0 rfl) ?_
          refine wp_cS1i (ck_get kk_Mc_of 1 rfl) ml_Mc_103 (by omega) (Nat.le_of_ble_eq_true rfl) (Ci.to (c_isTenant) ?_)
          rintro _ M1 ⟨rfl, eqm1⟩
          obtain rfl := eqm1.symm
          rw [bt]
          first | refine wp_if_neN (t := 9) (ck_get kk_Mc_of 2 rfl) (by decide) (by omega) (fun hc4 => ?_) (fun hc4 => ?_) | refine wp_if_ne (t := 9) (ck_get kk_Mc_of 2 rfl) (by decide) (fun hc4 => ?_) (fun hc4 => ?_)
          · refine wp_aload_n rfl (ck_get kk_Mc_of 5 rfl) ?_
            refine wp_getR (ck_get kk_Mc_of 6 rfl) fl_Mc_12 (by assumption) (by assumption) ?_
            refine wp_getR (ck_get kk_Mc_of 7 rfl) fl_Mc_107 (by assumption) (by assumption) ?_
            refine wp_getR (ck_get kk_Mc_of 8 rfl) fl_Mc_110 (by assumption) (by assumption) ?_
            refine wp_iload_n rfl (ck_get kk_Mc_of 9 rfl) ?_
            refine wp_aald (ck_get kk_Mc_of 10 rfl) (by assumption) (by first | assumption | exact ixk_nI (by omega) (by omega)) (by assumption) ?_
            refine wp_astore_n (ck_get kk_Mc_of 11 rfl) (by decide) rfl ?_
            refine wp_iload_n rfl (ck_get kk_Mc_of 12 rfl) ?_
            refine wp_tabIn (t := 62) (off := 39) (ck_get kk_Mc_of 13 rfl) (by decide) (by decide) rfl (by decide) ?_
            refine wp_aload_n rfl (ck_get kk_Mc_of 20 rfl) ?_
            first | refine wp_getIv (ck_get kk_Mc_of 21 rfl) fl_Mc_122 (by assumption) (by assumption) ?_ | refine wp_getI (ck_get kk_Mc_of 21 rfl) fl_Mc_122 (by assumption) ?_
            refine wp_ireturn (ck_get kk_Mc_of 22 rfl) rfl rfl ⟨_, rfl, ?_⟩
            exact ⟨rfl, hC', MSame.refl _⟩
          · exact absurd hc4 (by decide)
        · skip
          obtain ⟨hM, hSM, hUM, hIM, hDM, hPM, hNM, hBM⟩ := id h
          have to0 := hM.1
          have rfkept := MoAt.r hM 1 rfl
          have tfkept := MoAt.t hM 1 rfl
          have e : mI M (1020 + 2) (92 * k + 58) = nI (tLi ((sWo (zS z)).2 k)) := (hSM.1.t (b := 0) (pb := 0) ht).2.2.2.1
          refine cw_entry 0 pf_Mo_of rfl ?_
          refine wp_iload_n rfl (ck_get kk_Mo_of 0 rfl) ?_
          refine wp_cS1i (ck_get kk_Mo_of 1 rfl) ml_Mo_152 (by omega) (Nat.le_of_ble_eq_true rfl) (Ci.to (m_isTenant) ?_)
          rintro _ M1 ⟨rfl, eqm1⟩
          obtain rfl := eqm1.symm
          rw [bt]
          first | refine wp_if_neN (t := 9) (ck_get kk_Mo_of 2 rfl) (by decide) (by omega) (fun hc4 => ?_) (fun hc4 => ?_) | refine wp_if_ne (t := 9) (ck_get kk_Mo_of 2 rfl) (by decide) (fun hc4 => ?_) (fun hc4 => ?_)
          · refine wp_iload_n rfl (ck_get kk_Mo_of 5 rfl) ?_
            refine wp_tabIn (t := 63) (off := 53) (ck_get kk_Mo_of 6 rfl) (by decide) (by decide) rfl (by decide) ?_
            refine wp_aload_n rfl (ck_get kk_Mo_of 21 rfl) ?_
            refine wp_getR (ck_get kk_Mo_of 22 rfl) fl_Mo_28 (by assumption) (by assumption) ?_
            refine wp_iload_n rfl (ck_get kk_Mo_of 23 rfl) ?_
            refine wp_bipush (v := nI 58) (by decide) (ck_get kk_Mo_of 24 rfl) ?_
            refine wp_cS2i (ck_get kk_Mo_of 25 rfl) ml_Mo_142 (by omega) (Nat.le_of_ble_eq_true rfl) (Ci.to (m_at) ?_)
            rintro _ M1 ⟨rfl, eqm1⟩
            obtain rfl := eqm1.symm
            refine wp_ialdv (v := nI (tLi ((sWo (zS z)).2 k))) (ck_get kk_Mo_of 26 rfl) (by assumption) (ixk_nI (k := 92 * k + 58) (by omega) (by omega)) (e) ?_
            refine wp_ireturn (ck_get kk_Mo_of 27 rfl) rfl rfl ⟨_, rfl, ?_⟩
            exact ⟨rfl, h, CSame.refl _⟩
          · exact absurd hc4 (by decide)
      · refine ⟨nI (tRe ((sWo (zS z)).2 k)).length, z, hO.le (by omega), fun M h => ?_, fun M h => ?_⟩
        · skip
          have hC' := h.le (Nat.le_succ c)
          obtain ⟨pf, pg, hL, hSC, hTC, hIC, hDC, hPC, hNC, hBC, hZC⟩ := h
          obtain ⟨t0, ⟨r00, hSh⟩, ⟨r01, hTr⟩, ⟨r02, hTg⟩, ⟨r03, hWa⟩, ⟨r04, hWp⟩, ⟨r06, t921, r921a, r921b, hS0, hS1⟩, ⟨r07, t922⟩, ⟨r08, t923⟩, ⟨r010, hPa⟩, ⟨r011, hJu⟩, ⟨r012, hRe⟩, ⟨r013, hCu⟩, ⟨r014, hDe⟩, ⟨r018, t959⟩, hPf⟩ := id hL
          have t1 : mT M 1 = (6, 0) := hSh.1
          have r10 : mR M 1 0 = some 2 := hSh.2.1
          have hW2 : WoAt (mT M) (mR M) 2 := hSh.2.2.1
          have t2 : mT M 2 = (9, 0) := hW2.1
          have r20 : mR M 2 0 = some 3 := hW2.2.1
          have t3 : mT M 3 = (24, 4) := hW2.2.2.1
          have t31 : mT M 31 = (8, 0) := hTr.1
          have t924 : mT M 924 = (3, 0) := hPa.1
          have t934 : mT M 934 = (2, 0) := hJu.1
          have t938 : mT M 938 = (5, 0) := hRe.1
          have t947 : mT M 947 = (0, 0) := hCu.1
          have t952 : mT M 952 = (1, 0) := hDe.1
          have rTe : mR M 3 k = some (4 + 6 * k) := (hW2.2.2.2 k ht).1
          have hTA : TeAt (mT M) (mR M) (4 + 6 * k) := (hW2.2.2.2 k ht).2
          have hTH : TeHas (mI M) (mJ M) (4 + 6 * k) ((sWo (zS z)).2 k) := hSC.1.2 k ht
          have tTe := hTA.1
          have e := hTH.2.2.2.2.2.2.2.1
          refine cw_entry 1 pf_Mc_of rfl ?_
          refine wp_iload_n rfl (ck_get kk_Mc_of 0 rfl) ?_
          refine wp_cS1i (ck_get kk_Mc_of 1 rfl) ml_Mc_103 (by omega) (Nat.le_of_ble_eq_true rfl) (Ci.to (c_isTenant) ?_)
          rintro _ M1 ⟨rfl, eqm1⟩
          obtain rfl := eqm1.symm
          rw [bt]
          first | refine wp_if_neN (t := 9) (ck_get kk_Mc_of 2 rfl) (by decide) (by omega) (fun hc4 => ?_) (fun hc4 => ?_) | refine wp_if_ne (t := 9) (ck_get kk_Mc_of 2 rfl) (by decide) (fun hc4 => ?_) (fun hc4 => ?_)
          · refine wp_aload_n rfl (ck_get kk_Mc_of 5 rfl) ?_
            refine wp_getR (ck_get kk_Mc_of 6 rfl) fl_Mc_12 (by assumption) (by assumption) ?_
            refine wp_getR (ck_get kk_Mc_of 7 rfl) fl_Mc_107 (by assumption) (by assumption) ?_
            refine wp_getR (ck_get kk_Mc_of 8 rfl) fl_Mc_110 (by assumption) (by assumption) ?_
            refine wp_iload_n rfl (ck_get kk_Mc_of 9 rfl) ?_
            refine wp_aald (ck_get kk_Mc_of 10 rfl) (by assumption) (by first | assumption | exact ixk_nI (by omega) (by omega)) (by assumption) ?_
            refine wp_astore_n (ck_get kk_Mc_of 11 rfl) (by decide) rfl ?_
            refine wp_iload_n rfl (ck_get kk_Mc_of 12 rfl) ?_
            refine wp_tabIn (t := 67) (off := 44) (ck_get kk_Mc_of 13 rfl) (by decide) (by decide) rfl (by decide) ?_
            refine wp_aload_n rfl (ck_get kk_Mc_of 23 rfl) ?_
            first | refine wp_getIv (ck_get kk_Mc_of 24 rfl) fl_Mc_125 (by assumption) (by assumption) ?_ | refine wp_getI (ck_get kk_Mc_of 24 rfl) fl_Mc_125 (by assumption) ?_
            refine wp_ireturn (ck_get kk_Mc_of 25 rfl) rfl rfl ⟨_, rfl, ?_⟩
            exact ⟨rfl, hC', MSame.refl _⟩
          · exact absurd hc4 (by decide)
        · skip
          obtain ⟨hM, hSM, hUM, hIM, hDM, hPM, hNM, hBM⟩ := id h
          have to0 := hM.1
          have rfkept := MoAt.r hM 1 rfl
          have tfkept := MoAt.t hM 1 rfl
          have e : mI M (1020 + 2) (92 * k + 59) = nI (tRe ((sWo (zS z)).2 k)).length := (hSM.1.t (b := 0) (pb := 0) ht).2.2.2.2.2.1
          refine cw_entry 0 pf_Mo_of rfl ?_
          refine wp_iload_n rfl (ck_get kk_Mo_of 0 rfl) ?_
          refine wp_cS1i (ck_get kk_Mo_of 1 rfl) ml_Mo_152 (by omega) (Nat.le_of_ble_eq_true rfl) (Ci.to (m_isTenant) ?_)
          rintro _ M1 ⟨rfl, eqm1⟩
          obtain rfl := eqm1.symm
          rw [bt]
          first | refine wp_if_neN (t := 9) (ck_get kk_Mo_of 2 rfl) (by decide) (by omega) (fun hc4 => ?_) (fun hc4 => ?_) | refine wp_if_ne (t := 9) (ck_get kk_Mo_of 2 rfl) (by decide) (fun hc4 => ?_) (fun hc4 => ?_)
          · refine wp_iload_n rfl (ck_get kk_Mo_of 5 rfl) ?_
            refine wp_tabIn (t := 75) (off := 65) (ck_get kk_Mo_of 6 rfl) (by decide) (by decide) rfl (by decide) ?_
            refine wp_aload_n rfl (ck_get kk_Mo_of 28 rfl) ?_
            refine wp_getR (ck_get kk_Mo_of 29 rfl) fl_Mo_28 (by assumption) (by assumption) ?_
            refine wp_iload_n rfl (ck_get kk_Mo_of 30 rfl) ?_
            refine wp_bipush (v := nI 59) (by decide) (ck_get kk_Mo_of 31 rfl) ?_
            refine wp_cS2i (ck_get kk_Mo_of 32 rfl) ml_Mo_142 (by omega) (Nat.le_of_ble_eq_true rfl) (Ci.to (m_at) ?_)
            rintro _ M1 ⟨rfl, eqm1⟩
            obtain rfl := eqm1.symm
            refine wp_ialdv (v := nI (tRe ((sWo (zS z)).2 k)).length) (ck_get kk_Mo_of 33 rfl) (by assumption) (ixk_nI (k := 92 * k + 59) (by omega) (by omega)) (e) ?_
            refine wp_ireturn (ck_get kk_Mo_of 34 rfl) rfl rfl ⟨_, rfl, ?_⟩
            exact ⟨rfl, h, CSame.refl _⟩
          · exact absurd hc4 (by decide)
    · rcases i32c w 29 (by omega) with ⟨j, hj, rfl⟩ | hw29
      · have hj4 : 4 ≤ j := by rw [nI_toInt (by omega)] at hw; omega
        refine ⟨nI (tCo ((sWo (zS z)).2 k) (j - 4)), z, hO.le (by omega), fun M h => ?_, fun M h => ?_⟩
        · skip
          have hC' := h.le (Nat.le_succ c)
          obtain ⟨pf, pg, hL, hSC, hTC, hIC, hDC, hPC, hNC, hBC, hZC⟩ := h
          obtain ⟨t0, ⟨r00, hSh⟩, ⟨r01, hTr⟩, ⟨r02, hTg⟩, ⟨r03, hWa⟩, ⟨r04, hWp⟩, ⟨r06, t921, r921a, r921b, hS0, hS1⟩, ⟨r07, t922⟩, ⟨r08, t923⟩, ⟨r010, hPa⟩, ⟨r011, hJu⟩, ⟨r012, hRe⟩, ⟨r013, hCu⟩, ⟨r014, hDe⟩, ⟨r018, t959⟩, hPf⟩ := id hL
          have t1 : mT M 1 = (6, 0) := hSh.1
          have r10 : mR M 1 0 = some 2 := hSh.2.1
          have hW2 : WoAt (mT M) (mR M) 2 := hSh.2.2.1
          have t2 : mT M 2 = (9, 0) := hW2.1
          have r20 : mR M 2 0 = some 3 := hW2.2.1
          have t3 : mT M 3 = (24, 4) := hW2.2.2.1
          have t31 : mT M 31 = (8, 0) := hTr.1
          have t924 : mT M 924 = (3, 0) := hPa.1
          have t934 : mT M 934 = (2, 0) := hJu.1
          have t938 : mT M 938 = (5, 0) := hRe.1
          have t947 : mT M 947 = (0, 0) := hCu.1
          have t952 : mT M 952 = (1, 0) := hDe.1
          have rTe : mR M 3 k = some (4 + 6 * k) := (hW2.2.2.2 k ht).1
          have hTA : TeAt (mT M) (mR M) (4 + 6 * k) := (hW2.2.2.2 k ht).2
          have hTH : TeHas (mI M) (mJ M) (4 + 6 * k) ((sWo (zS z)).2 k) := hSC.1.2 k ht
          have tTe := hTA.1
          have rco := hTA.2.2.1
          have tco := hTA.2.2.2.2.2.2.2.1
          have e := hTH.2.2.1 (j - 4) (by omega)
          refine cw_entry 1 pf_Mc_of rfl ?_
          refine wp_iload_n rfl (ck_get kk_Mc_of 0 rfl) ?_
          refine wp_cS1i (ck_get kk_Mc_of 1 rfl) ml_Mc_103 (by omega) (Nat.le_of_ble_eq_true rfl) (Ci.to (c_isTenant) ?_)
          rintro _ M1 ⟨rfl, eqm1⟩
          obtain rfl := eqm1.symm
          rw [bt]
          first | refine wp_if_neN (t := 9) (ck_get kk_Mc_of 2 rfl) (by decide) (by omega) (fun hc4 => ?_) (fun hc4 => ?_) | refine wp_if_ne (t := 9) (ck_get kk_Mc_of 2 rfl) (by decide) (fun hc4 => ?_) (fun hc4 => ?_)
          · refine wp_aload_n rfl (ck_get kk_Mc_of 5 rfl) ?_
            refine wp_getR (ck_get kk_Mc_of 6 rfl) fl_Mc_12 (by assumption) (by assumption) ?_
            refine wp_getR (ck_get kk_Mc_of 7 rfl) fl_Mc_107 (by assumption) (by assumption) ?_
            refine wp_getR (ck_get kk_Mc_of 8 rfl) fl_Mc_110 (by assumption) (by assumption) ?_
            refine wp_iload_n rfl (ck_get kk_Mc_of 9 rfl) ?_
            refine wp_aald (ck_get kk_Mc_of 10 rfl) (by assumption) (by first | assumption | exact ixk_nI (by omega) (by omega)) (by assumption) ?_
            refine wp_astore_n (ck_get kk_Mc_of 11 rfl) (by decide) rfl ?_
            refine wp_iload_n rfl (ck_get kk_Mc_of 12 rfl) ?_
            refine wp_tabOut (t := 72) (ck_get kk_Mc_of 13 rfl) (by omega) (by decide) ?_
            refine wp_iload_n rfl (ck_get kk_Mc_of 26 rfl) ?_
            refine wp_iconst (v := nI 4) (by decide) (ck_get kk_Mc_of 27 rfl) ?_
            first | refine wp_icmp_ltN (t := 94) (ck_get kk_Mc_of 28 rfl) (by decide) (by omega) (by omega) (fun hc74 => ?_) (fun hc74 => ?_) | refine wp_icmp_lt (t := 94) (ck_get kk_Mc_of 28 rfl) (by decide) (fun hc74 => ?_) (fun hc74 => ?_)
            · omega
            · refine wp_iload_n rfl (ck_get kk_Mc_of 29 rfl) ?_
              refine wp_bipush (v := nI 28) (by decide) (ck_get kk_Mc_of 30 rfl) ?_
              first | refine wp_icmp_gtN (t := 94) (ck_get kk_Mc_of 31 rfl) (by decide) (by omega) (by omega) (fun hc80 => ?_) (fun hc80 => ?_) | refine wp_icmp_gt (t := 94) (ck_get kk_Mc_of 31 rfl) (by decide) (fun hc80 => ?_) (fun hc80 => ?_)
              · omega
              · refine wp_aload_n rfl (ck_get kk_Mc_of 32 rfl) ?_
                refine wp_getR (ck_get kk_Mc_of 33 rfl) fl_Mc_128 (by assumption) (by assumption) ?_
                refine wp_iload_n rfl (ck_get kk_Mc_of 34 rfl) ?_
                refine wp_iconst (v := nI 4) (by decide) (ck_get kk_Mc_of 35 rfl) ?_
                refine wp_isubN (ck_get kk_Mc_of 36 rfl) (by omega) ?_
                refine wp_ialdv (v := nI (tCo ((sWo (zS z)).2 k) (j - 4))) (ck_get kk_Mc_of 37 rfl) (by assumption) (ixk_nI (k := j - 4) (by omega) (by omega)) (e) ?_
                refine wp_goto (t := 95) (ck_get kk_Mc_of 38 rfl) (by decide) ?_
                refine wp_ireturn (ck_get kk_Mc_of 40 rfl) rfl rfl ⟨_, rfl, ?_⟩
                exact ⟨rfl, hC', MSame.refl _⟩
          · exact absurd hc4 (by decide)
        · skip
          obtain ⟨hM, hSM, hUM, hIM, hDM, hPM, hNM, hBM⟩ := id h
          have to0 := hM.1
          have rfkept := MoAt.r hM 1 rfl
          have tfkept := MoAt.t hM 1 rfl
          have e : mI M (1020 + 2) (92 * k + (25 + j - 4)) = nI (tCo ((sWo (zS z)).2 k) (j - 4)) := by
            have := (hSM.1.t (b := 0) (pb := 0) ht).2.1 (j - 4) (by omega)
            rw [show 92 * k + (25 + j - 4) = 92 * k + 25 + (j - 4) by omega]; exact this
          have hl : decide (nI 4 ≤ nI j ∧ nI j ≤ nI 28) = true := decide_eq_true ⟨nI_le (by omega) (by omega), nI_le (by omega) (by omega)⟩
          refine cw_entry 0 pf_Mo_of rfl ?_
          refine wp_iload_n rfl (ck_get kk_Mo_of 0 rfl) ?_
          refine wp_cS1i (ck_get kk_Mo_of 1 rfl) ml_Mo_152 (by omega) (Nat.le_of_ble_eq_true rfl) (Ci.to (m_isTenant) ?_)
          rintro _ M1 ⟨rfl, eqm1⟩
          obtain rfl := eqm1.symm
          rw [bt]
          first | refine wp_if_neN (t := 9) (ck_get kk_Mo_of 2 rfl) (by decide) (by omega) (fun hc4 => ?_) (fun hc4 => ?_) | refine wp_if_ne (t := 9) (ck_get kk_Mo_of 2 rfl) (by decide) (fun hc4 => ?_) (fun hc4 => ?_)
          · refine wp_iload_n rfl (ck_get kk_Mo_of 5 rfl) ?_
            refine wp_tabOut (t := 87) (ck_get kk_Mo_of 6 rfl) (by omega) (by decide) ?_
            refine wp_iload_n rfl (ck_get kk_Mo_of 35 rfl) ?_
            refine wp_iconst (v := nI 4) (by decide) (ck_get kk_Mo_of 36 rfl) ?_
            refine wp_bipush (v := nI 28) (by decide) (ck_get kk_Mo_of 37 rfl) ?_
            refine wp_cS3i (ck_get kk_Mo_of 38 rfl) ml_Mo_18 (by omega) (Nat.le_of_ble_eq_true rfl) (Ci.to (m_liesG) ?_)
            rintro _ M1 ⟨rfl, eqm1⟩
            obtain rfl := eqm1.symm
            rw [hl]
            first | refine wp_if_eqN (t := 115) (ck_get kk_Mo_of 39 rfl) (by decide) (by omega) (fun hc94 => ?_) (fun hc94 => ?_) | refine wp_if_eq (t := 115) (ck_get kk_Mo_of 39 rfl) (by decide) (fun hc94 => ?_) (fun hc94 => ?_)
            · exact absurd hc94 (by decide)
            · refine wp_aload_n rfl (ck_get kk_Mo_of 40 rfl) ?_
              refine wp_getR (ck_get kk_Mo_of 41 rfl) fl_Mo_28 (by assumption) (by assumption) ?_
              refine wp_iload_n rfl (ck_get kk_Mo_of 42 rfl) ?_
              refine wp_bipush (v := nI 25) (by decide) (ck_get kk_Mo_of 43 rfl) ?_
              refine wp_iload_n rfl (ck_get kk_Mo_of 44 rfl) ?_
              first | refine wp_iaddN (ck_get kk_Mo_of 45 rfl) ?_ | refine wp_iadd (ck_get kk_Mo_of 45 rfl) ?_
              refine wp_iconst (v := nI 4) (by decide) (ck_get kk_Mo_of 46 rfl) ?_
              refine wp_isubN (ck_get kk_Mo_of 47 rfl) (by omega) ?_
              refine wp_cS2i (ck_get kk_Mo_of 48 rfl) ml_Mo_142 (by omega) (Nat.le_of_ble_eq_true rfl) (Ci.to (m_at) ?_)
              rintro _ M1 ⟨rfl, eqm1⟩
              obtain rfl := eqm1.symm
              refine wp_ialdv (v := nI (tCo ((sWo (zS z)).2 k) (j - 4))) (ck_get kk_Mo_of 49 rfl) (by assumption) (ixk_nI (k := 92 * k + (25 + j - 4)) (by omega) (by omega)) (e) ?_
              refine wp_goto (t := 116) (ck_get kk_Mo_of 50 rfl) (by decide) ?_
              refine wp_ireturn (ck_get kk_Mo_of 52 rfl) rfl rfl ⟨_, rfl, ?_⟩
              exact ⟨rfl, h, CSame.refl _⟩
          · exact absurd hc4 (by decide)
      · refine ⟨-1, z, hO.le (by omega), fun M h => ?_, fun M h => ?_⟩
        · skip
          have hC' := h.le (Nat.le_succ c)
          obtain ⟨pf, pg, hL, hSC, hTC, hIC, hDC, hPC, hNC, hBC, hZC⟩ := h
          obtain ⟨t0, ⟨r00, hSh⟩, ⟨r01, hTr⟩, ⟨r02, hTg⟩, ⟨r03, hWa⟩, ⟨r04, hWp⟩, ⟨r06, t921, r921a, r921b, hS0, hS1⟩, ⟨r07, t922⟩, ⟨r08, t923⟩, ⟨r010, hPa⟩, ⟨r011, hJu⟩, ⟨r012, hRe⟩, ⟨r013, hCu⟩, ⟨r014, hDe⟩, ⟨r018, t959⟩, hPf⟩ := id hL
          have t1 : mT M 1 = (6, 0) := hSh.1
          have r10 : mR M 1 0 = some 2 := hSh.2.1
          have hW2 : WoAt (mT M) (mR M) 2 := hSh.2.2.1
          have t2 : mT M 2 = (9, 0) := hW2.1
          have r20 : mR M 2 0 = some 3 := hW2.2.1
          have t3 : mT M 3 = (24, 4) := hW2.2.2.1
          have t31 : mT M 31 = (8, 0) := hTr.1
          have t924 : mT M 924 = (3, 0) := hPa.1
          have t934 : mT M 934 = (2, 0) := hJu.1
          have t938 : mT M 938 = (5, 0) := hRe.1
          have t947 : mT M 947 = (0, 0) := hCu.1
          have t952 : mT M 952 = (1, 0) := hDe.1
          have rTe : mR M 3 k = some (4 + 6 * k) := (hW2.2.2.2 k ht).1
          have hTA : TeAt (mT M) (mR M) (4 + 6 * k) := (hW2.2.2.2 k ht).2
          have hTH : TeHas (mI M) (mJ M) (4 + 6 * k) ((sWo (zS z)).2 k) := hSC.1.2 k ht
          have tTe := hTA.1
          refine cw_entry 1 pf_Mc_of rfl ?_
          refine wp_iload_n rfl (ck_get kk_Mc_of 0 rfl) ?_
          refine wp_cS1i (ck_get kk_Mc_of 1 rfl) ml_Mc_103 (by omega) (Nat.le_of_ble_eq_true rfl) (Ci.to (c_isTenant) ?_)
          rintro _ M1 ⟨rfl, eqm1⟩
          obtain rfl := eqm1.symm
          rw [bt]
          first | refine wp_if_neN (t := 9) (ck_get kk_Mc_of 2 rfl) (by decide) (by omega) (fun hc4 => ?_) (fun hc4 => ?_) | refine wp_if_ne (t := 9) (ck_get kk_Mc_of 2 rfl) (by decide) (fun hc4 => ?_) (fun hc4 => ?_)
          · refine wp_aload_n rfl (ck_get kk_Mc_of 5 rfl) ?_
            refine wp_getR (ck_get kk_Mc_of 6 rfl) fl_Mc_12 (by assumption) (by assumption) ?_
            refine wp_getR (ck_get kk_Mc_of 7 rfl) fl_Mc_107 (by assumption) (by assumption) ?_
            refine wp_getR (ck_get kk_Mc_of 8 rfl) fl_Mc_110 (by assumption) (by assumption) ?_
            refine wp_iload_n rfl (ck_get kk_Mc_of 9 rfl) ?_
            refine wp_aald (ck_get kk_Mc_of 10 rfl) (by assumption) (by first | assumption | exact ixk_nI (by omega) (by omega)) (by assumption) ?_
            refine wp_astore_n (ck_get kk_Mc_of 11 rfl) (by decide) rfl ?_
            refine wp_iload_n rfl (ck_get kk_Mc_of 12 rfl) ?_
            refine wp_tabOut (t := 72) (ck_get kk_Mc_of 13 rfl) (by omega) (by decide) ?_
            refine wp_iload_n rfl (ck_get kk_Mc_of 26 rfl) ?_
            refine wp_iconst (v := nI 4) (by decide) (ck_get kk_Mc_of 27 rfl) ?_
            refine wp_icmp_lt (t := 94) (ck_get kk_Mc_of 28 rfl) (by decide) (fun hc74 => ?_) (fun hc74 => ?_)
            · refine wp_iconst (v := (-1)) (by decide) (ck_get kk_Mc_of 39 rfl) ?_
              refine wp_ireturn (ck_get kk_Mc_of 40 rfl) rfl rfl ⟨_, rfl, ?_⟩
              exact ⟨rfl, hC', MSame.refl _⟩
            · refine wp_iload_n rfl (ck_get kk_Mc_of 29 rfl) ?_
              refine wp_bipush (v := nI 28) (by decide) (ck_get kk_Mc_of 30 rfl) ?_
              refine wp_icmp_gt (t := 94) (ck_get kk_Mc_of 31 rfl) (by decide) (fun hc80 => ?_) (fun hc80 => ?_)
              · refine wp_iconst (v := (-1)) (by decide) (ck_get kk_Mc_of 39 rfl) ?_
                refine wp_ireturn (ck_get kk_Mc_of 40 rfl) rfl rfl ⟨_, rfl, ?_⟩
                exact ⟨rfl, hC', MSame.refl _⟩
              · exact (i32o hw29 4 28 rfl (by omega) (by omega) hc74 hc80).elim
          · exact absurd hc4 (by decide)
        · skip
          obtain ⟨hM, hSM, hUM, hIM, hDM, hPM, hNM, hBM⟩ := id h
          have to0 := hM.1
          have hl : decide (nI 4 ≤ w ∧ w ≤ nI 28) = false := decide_eq_false (fun q => i32o hw29 4 28 rfl (by omega) (by omega) (fun h => by have a := Int32.lt_iff_toInt_lt.mp h; have b := Int32.le_iff_toInt_le.mp q.1; omega) (fun h => by have a := Int32.lt_iff_toInt_lt.mp h; have b := Int32.le_iff_toInt_le.mp q.2; omega))
          refine cw_entry 0 pf_Mo_of rfl ?_
          refine wp_iload_n rfl (ck_get kk_Mo_of 0 rfl) ?_
          refine wp_cS1i (ck_get kk_Mo_of 1 rfl) ml_Mo_152 (by omega) (Nat.le_of_ble_eq_true rfl) (Ci.to (m_isTenant) ?_)
          rintro _ M1 ⟨rfl, eqm1⟩
          obtain rfl := eqm1.symm
          rw [bt]
          first | refine wp_if_neN (t := 9) (ck_get kk_Mo_of 2 rfl) (by decide) (by omega) (fun hc4 => ?_) (fun hc4 => ?_) | refine wp_if_ne (t := 9) (ck_get kk_Mo_of 2 rfl) (by decide) (fun hc4 => ?_) (fun hc4 => ?_)
          · refine wp_iload_n rfl (ck_get kk_Mo_of 5 rfl) ?_
            refine wp_tabOut (t := 87) (ck_get kk_Mo_of 6 rfl) (by omega) (by decide) ?_
            refine wp_iload_n rfl (ck_get kk_Mo_of 35 rfl) ?_
            refine wp_iconst (v := nI 4) (by decide) (ck_get kk_Mo_of 36 rfl) ?_
            refine wp_bipush (v := nI 28) (by decide) (ck_get kk_Mo_of 37 rfl) ?_
            refine wp_cS3i (ck_get kk_Mo_of 38 rfl) ml_Mo_18 (by omega) (Nat.le_of_ble_eq_true rfl) (Ci.to (m_liesG) ?_)
            rintro _ M1 ⟨rfl, eqm1⟩
            obtain rfl := eqm1.symm
            rw [hl]
            first | refine wp_if_eqN (t := 115) (ck_get kk_Mo_of 39 rfl) (by decide) (by omega) (fun hc94 => ?_) (fun hc94 => ?_) | refine wp_if_eq (t := 115) (ck_get kk_Mo_of 39 rfl) (by decide) (fun hc94 => ?_) (fun hc94 => ?_)
            · refine wp_iconst (v := (-1)) (by decide) (ck_get kk_Mo_of 51 rfl) ?_
              refine wp_ireturn (ck_get kk_Mo_of 52 rfl) rfl rfl ⟨_, rfl, ?_⟩
              exact ⟨rfl, h, CSame.refl _⟩
            · exact absurd (by decide) hc94
          · exact absurd hc4 (by decide)
  · refine ⟨-1, z, hO.le (by omega), fun M h => ?_, fun M h => ?_⟩
    · skip
      have hC' := h.le (Nat.le_succ c)
      obtain ⟨pf, pg, hL, hSC, hTC, hIC, hDC, hPC, hNC, hBC, hZC⟩ := h
      obtain ⟨t0, ⟨r00, hSh⟩, ⟨r01, hTr⟩, ⟨r02, hTg⟩, ⟨r03, hWa⟩, ⟨r04, hWp⟩, ⟨r06, t921, r921a, r921b, hS0, hS1⟩, ⟨r07, t922⟩, ⟨r08, t923⟩, ⟨r010, hPa⟩, ⟨r011, hJu⟩, ⟨r012, hRe⟩, ⟨r013, hCu⟩, ⟨r014, hDe⟩, ⟨r018, t959⟩, hPf⟩ := id hL
      have t1 : mT M 1 = (6, 0) := hSh.1
      have r10 : mR M 1 0 = some 2 := hSh.2.1
      have hW2 : WoAt (mT M) (mR M) 2 := hSh.2.2.1
      have t2 : mT M 2 = (9, 0) := hW2.1
      have r20 : mR M 2 0 = some 3 := hW2.2.1
      have t3 : mT M 3 = (24, 4) := hW2.2.2.1
      have t31 : mT M 31 = (8, 0) := hTr.1
      have t924 : mT M 924 = (3, 0) := hPa.1
      have t934 : mT M 934 = (2, 0) := hJu.1
      have t938 : mT M 938 = (5, 0) := hRe.1
      have t947 : mT M 947 = (0, 0) := hCu.1
      have t952 : mT M 952 = (1, 0) := hDe.1
      refine cw_entry 1 pf_Mc_of rfl ?_
      refine wp_iload_n rfl (ck_get kk_Mc_of 0 rfl) ?_
      refine wp_cS1i (ck_get kk_Mc_of 1 rfl) ml_Mc_103 (by omega) (Nat.le_of_ble_eq_true rfl) (Ci.to (c_isTenant) ?_)
      rintro _ M1 ⟨rfl, eqm1⟩
      obtain rfl := eqm1.symm
      rw [bt]
      first | refine wp_if_neN (t := 9) (ck_get kk_Mc_of 2 rfl) (by decide) (by omega) (fun hc4 => ?_) (fun hc4 => ?_) | refine wp_if_ne (t := 9) (ck_get kk_Mc_of 2 rfl) (by decide) (fun hc4 => ?_) (fun hc4 => ?_)
      · exact absurd (by decide) hc4
      · refine wp_iconst (v := (-1)) (by decide) (ck_get kk_Mc_of 3 rfl) ?_
        refine wp_ireturn (ck_get kk_Mc_of 4 rfl) rfl rfl ⟨_, rfl, ?_⟩
        exact ⟨rfl, hC', MSame.refl _⟩
    · skip
      obtain ⟨hM, hSM, hUM, hIM, hDM, hPM, hNM, hBM⟩ := id h
      have to0 := hM.1
      refine cw_entry 0 pf_Mo_of rfl ?_
      refine wp_iload_n rfl (ck_get kk_Mo_of 0 rfl) ?_
      refine wp_cS1i (ck_get kk_Mo_of 1 rfl) ml_Mo_152 (by omega) (Nat.le_of_ble_eq_true rfl) (Ci.to (m_isTenant) ?_)
      rintro _ M1 ⟨rfl, eqm1⟩
      obtain rfl := eqm1.symm
      rw [bt]
      first | refine wp_if_neN (t := 9) (ck_get kk_Mo_of 2 rfl) (by decide) (by omega) (fun hc4 => ?_) (fun hc4 => ?_) | refine wp_if_ne (t := 9) (ck_get kk_Mo_of 2 rfl) (by decide) (fun hc4 => ?_) (fun hc4 => ?_)
      · exact absurd (by decide) hc4
      · refine wp_iconst (v := (-1)) (by decide) (ck_get kk_Mo_of 3 rfl) ?_
        refine wp_ireturn (ck_get kk_Mo_of 4 rfl) rfl rfl ⟨_, rfl, ?_⟩
        exact ⟨rfl, h, CSame.refl _⟩
end OFT
