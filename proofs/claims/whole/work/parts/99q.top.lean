/-! ===== top, end, count, force ===== -/
section TOP
variable {g : Gl}
theorem RowI.at {f : Nat → Int32} {b i : Nat} {L : List Nat} (h : RowI f b L) (hi : i < L.length) : f (b + i) = nI (L.getD i 0) := h i hi
theorem b_top {t w : Int32} : Both g Y_Mc_top Y_Mo_top [.int t, .int w] := by
  intro c z hc hO
  rcases i32c t 4 (by omega) with ⟨k, ht, rfl⟩ | ⟨bt, hx⟩
  · have bt := inB_nI ht (n := 4) (by omega)
    have hTO := hO.1.1.2 k ht
    have hl24 := hTO.1
    rcases i32c w ((tSt ((sWo (zS z)).2 k)).length + 1) (by omega) with ⟨j, hj, rfl⟩ | hwo
    · by_cases hj0 : j = 0
      · subst hj0
        refine ⟨-1, z, hO.le (by omega), fun M h => ?_, fun M h => ?_⟩
        · skip
          have hC' := h.le (Nat.le_succ c)
          obtain ⟨pf, pg, hL, hSC, hTC, hIC, hDC, hPC, hNC, hBC, hZC⟩ := h
          obtain ⟨t0, ⟨r00, hSh⟩, ⟨r01, hTr⟩, ⟨r02, hTg⟩, ⟨r03, hWa⟩, ⟨r04, hWp⟩, ⟨r06, t921, r921a, r921b, hS0, hS1⟩, ⟨r07, t922⟩, ⟨r08, t923⟩, ⟨r010, hPa⟩, ⟨r011, hJu⟩, ⟨r012, hRe⟩, ⟨r013, hCu⟩, ⟨r014, hDe⟩, ⟨r018, t959⟩, hPf⟩ := id hL
          have t1 : mT M 1 = (6, 0) := hSh.1
          have r10 : mR M 1 0 = some 2 := hSh.2.1
          have hW2 : WoAt (mT M) (mR M) 2 := hSh.2.2.1
          have t2 : mT M 2 = (9, 0) := hW2.1
          have r20 : mR M 2 0 = some 3 := hW2.2.1
          have t3 : mT M 3 = (24, 4) := hW2.2.2.1
          have t31 : mT M 31 = (8, 0) := hTr.1
          have t924 : mT M 924 = (3, 0) := hPa.1
          have t934 : mT M 934 = (2, 0) := hJu.1
          have t938 : mT M 938 = (5, 0) := hRe.1
          have t947 : mT M 947 = (0, 0) := hCu.1
          have t952 : mT M 952 = (1, 0) := hDe.1
          have rTe : mR M 3 k = some (4 + 6 * k) := (hW2.2.2.2 k ht).1
          have hTA : TeAt (mT M) (mR M) (4 + 6 * k) := (hW2.2.2.2 k ht).2
          have hTH : TeHas (mI M) (mJ M) (4 + 6 * k) ((sWo (zS z)).2 k) := hSC.1.2 k ht
          have tTe := hTA.1
          refine cw_entry 1 pf_Mc_top rfl ?_
          refine wp_iload_n rfl (ck_get kk_Mc_top 0 rfl) ?_
          refine wp_cS1i (ck_get kk_Mc_top 1 rfl) ml_Mc_103 (by omega) (Nat.le_of_ble_eq_true rfl) (Ci.to (c_isTenant) ?_)
          rintro _ M1 ⟨rfl, eqm1⟩
          obtain rfl := eqm1.symm
          rw [bt]
          first | refine wp_if_neN (t := 9) (ck_get kk_Mc_top 2 rfl) (by decide) (by omega) (fun hc4 => ?_) (fun hc4 => ?_) | refine wp_if_ne (t := 9) (ck_get kk_Mc_top 2 rfl) (by decide) (fun hc4 => ?_) (fun hc4 => ?_)
          · refine wp_aload_n rfl (ck_get kk_Mc_top 5 rfl) ?_
            refine wp_getR (ck_get kk_Mc_top 6 rfl) fl_Mc_12 (by assumption) (by assumption) ?_
            refine wp_getR (ck_get kk_Mc_top 7 rfl) fl_Mc_107 (by assumption) (by assumption) ?_
            refine wp_getR (ck_get kk_Mc_top 8 rfl) fl_Mc_110 (by assumption) (by assumption) ?_
            refine wp_iload_n rfl (ck_get kk_Mc_top 9 rfl) ?_
            refine wp_aald (ck_get kk_Mc_top 10 rfl) (by assumption) (by first | assumption | exact ixk_nI (by omega) (by omega)) (by assumption) ?_
            refine wp_astore_n (ck_get kk_Mc_top 11 rfl) (by decide) rfl ?_
            refine wp_iload_n rfl (ck_get kk_Mc_top 12 rfl) ?_
            refine wp_iconst (v := nI 1) (by decide) (ck_get kk_Mc_top 13 rfl) ?_
            first | refine wp_icmp_ltN (t := 46) (ck_get kk_Mc_top 14 rfl) (by decide) (by omega) (by omega) (fun hc24 => ?_) (fun hc24 => ?_) | refine wp_icmp_lt (t := 46) (ck_get kk_Mc_top 14 rfl) (by decide) (fun hc24 => ?_) (fun hc24 => ?_)
            · refine wp_iconst (v := (-1)) (by decide) (ck_get kk_Mc_top 26 rfl) ?_
              refine wp_ireturn (ck_get kk_Mc_top 27 rfl) rfl rfl ⟨_, rfl, ?_⟩
              exact ⟨rfl, hC', MSame.refl _⟩
            · omega
          · exact absurd hc4 (by decide)
        · skip
          obtain ⟨hM, hSM, hUM, hIM, hDM, hPM, hNM, hBM⟩ := id h
          have to0 := hM.1
          have rfkept := MoAt.r hM 1 rfl
          have tfkept := MoAt.t hM 1 rfl
          have e : mI M (1020 + 2) (92 * k + 0) = nI (tSt ((sWo (zS z)).2 k)).length := (hSM.1.t (b := 0) (pb := 0) ht).1.1
          have hl : decide (nI 1 ≤ nI 0 ∧ nI 0 ≤ nI (tSt ((sWo (zS z)).2 k)).length) = false := decide_eq_false (fun q => absurd q.1 (by decide))
          refine cw_entry 0 pf_Mo_top rfl ?_
          refine wp_iload_n rfl (ck_get kk_Mo_top 0 rfl) ?_
          refine wp_cS1i (ck_get kk_Mo_top 1 rfl) ml_Mo_152 (by omega) (Nat.le_of_ble_eq_true rfl) (Ci.to (m_isTenant) ?_)
          rintro _ M1 ⟨rfl, eqm1⟩
          obtain rfl := eqm1.symm
          rw [bt]
          first | refine wp_if_eqN (t := 42) (ck_get kk_Mo_top 2 rfl) (by decide) (by omega) (fun hc4 => ?_) (fun hc4 => ?_) | refine wp_if_eq (t := 42) (ck_get kk_Mo_top 2 rfl) (by decide) (fun hc4 => ?_) (fun hc4 => ?_)
          · exact absurd hc4 (by decide)
          · refine wp_iload_n rfl (ck_get kk_Mo_top 3 rfl) ?_
            refine wp_iconst (v := nI 1) (by decide) (ck_get kk_Mo_top 4 rfl) ?_
            refine wp_aload_n rfl (ck_get kk_Mo_top 5 rfl) ?_
            refine wp_getR (ck_get kk_Mo_top 6 rfl) fl_Mo_28 (by assumption) (by assumption) ?_
            refine wp_iload_n rfl (ck_get kk_Mo_top 7 rfl) ?_
            refine wp_iconst (v := nI 0) (by decide) (ck_get kk_Mo_top 8 rfl) ?_
            refine wp_cS2i (ck_get kk_Mo_top 9 rfl) ml_Mo_142 (by omega) (Nat.le_of_ble_eq_true rfl) (Ci.to (m_at) ?_)
            rintro _ M1 ⟨rfl, eqm1⟩
            obtain rfl := eqm1.symm
            refine wp_ialdv (v := nI (tSt ((sWo (zS z)).2 k)).length) (ck_get kk_Mo_top 10 rfl) (by assumption) (ixk_nI (k := 92 * k + 0) (by omega) (by omega)) (e) ?_
            refine wp_cS3i (ck_get kk_Mo_top 11 rfl) ml_Mo_18 (by omega) (Nat.le_of_ble_eq_true rfl) (Ci.to (m_liesG) ?_)
            rintro _ M1 ⟨rfl, eqm1⟩
            obtain rfl := eqm1.symm
            rw [hl]
            first | refine wp_if_eqN (t := 42) (ck_get kk_Mo_top 12 rfl) (by decide) (by omega) (fun hc22 => ?_) (fun hc22 => ?_) | refine wp_if_eq (t := 42) (ck_get kk_Mo_top 12 rfl) (by decide) (fun hc22 => ?_) (fun hc22 => ?_)
            · refine wp_iconst (v := (-1)) (by decide) (ck_get kk_Mo_top 24 rfl) ?_
              refine wp_ireturn (ck_get kk_Mo_top 25 rfl) rfl rfl ⟨_, rfl, ?_⟩
              exact ⟨rfl, h, CSame.refl _⟩
            · exact absurd (by decide) hc22
      · refine ⟨nI ((tSt ((sWo (zS z)).2 k)).getD (j - 1) 0), z, hO.le (by omega), fun M h => ?_, fun M h => ?_⟩
        · skip
          have hC' := h.le (Nat.le_succ c)
          obtain ⟨pf, pg, hL, hSC, hTC, hIC, hDC, hPC, hNC, hBC, hZC⟩ := h
          obtain ⟨t0, ⟨r00, hSh⟩, ⟨r01, hTr⟩, ⟨r02, hTg⟩, ⟨r03, hWa⟩, ⟨r04, hWp⟩, ⟨r06, t921, r921a, r921b, hS0, hS1⟩, ⟨r07, t922⟩, ⟨r08, t923⟩, ⟨r010, hPa⟩, ⟨r011, hJu⟩, ⟨r012, hRe⟩, ⟨r013, hCu⟩, ⟨r014, hDe⟩, ⟨r018, t959⟩, hPf⟩ := id hL
          have t1 : mT M 1 = (6, 0) := hSh.1
          have r10 : mR M 1 0 = some 2 := hSh.2.1
          have hW2 : WoAt (mT M) (mR M) 2 := hSh.2.2.1
          have t2 : mT M 2 = (9, 0) := hW2.1
          have r20 : mR M 2 0 = some 3 := hW2.2.1
          have t3 : mT M 3 = (24, 4) := hW2.2.2.1
          have t31 : mT M 31 = (8, 0) := hTr.1
          have t924 : mT M 924 = (3, 0) := hPa.1
          have t934 : mT M 934 = (2, 0) := hJu.1
          have t938 : mT M 938 = (5, 0) := hRe.1
          have t947 : mT M 947 = (0, 0) := hCu.1
          have t952 : mT M 952 = (1, 0) := hDe.1
          have rTe : mR M 3 k = some (4 + 6 * k) := (hW2.2.2.2 k ht).1
          have hTA : TeAt (mT M) (mR M) (4 + 6 * k) := (hW2.2.2.2 k ht).2
          have hTH : TeHas (mI M) (mJ M) (4 + 6 * k) ((sWo (zS z)).2 k) := hSC.1.2 k ht
          have tTe := hTA.1
          have e1 := hTH.1
          have rst := hTA.2.1
          have tst := hTA.2.2.2.2.2.2.1
          have e : mI M (4 + 6 * k + 1) (j - 1) = nI ((tSt ((sWo (zS z)).2 k)).getD (j - 1) 0) := by
            have := hTH.2.1.at (i := j - 1) (by omega)
            rw [Nat.zero_add] at this; exact this
          refine cw_entry 1 pf_Mc_top rfl ?_
          refine wp_iload_n rfl (ck_get kk_Mc_top 0 rfl) ?_
          refine wp_cS1i (ck_get kk_Mc_top 1 rfl) ml_Mc_103 (by omega) (Nat.le_of_ble_eq_true rfl) (Ci.to (c_isTenant) ?_)
          rintro _ M1 ⟨rfl, eqm1⟩
          obtain rfl := eqm1.symm
          rw [bt]
          first | refine wp_if_neN (t := 9) (ck_get kk_Mc_top 2 rfl) (by decide) (by omega) (fun hc4 => ?_) (fun hc4 => ?_) | refine wp_if_ne (t := 9) (ck_get kk_Mc_top 2 rfl) (by decide) (fun hc4 => ?_) (fun hc4 => ?_)
          · refine wp_aload_n rfl (ck_get kk_Mc_top 5 rfl) ?_
            refine wp_getR (ck_get kk_Mc_top 6 rfl) fl_Mc_12 (by assumption) (by assumption) ?_
            refine wp_getR (ck_get kk_Mc_top 7 rfl) fl_Mc_107 (by assumption) (by assumption) ?_
            refine wp_getR (ck_get kk_Mc_top 8 rfl) fl_Mc_110 (by assumption) (by assumption) ?_
            refine wp_iload_n rfl (ck_get kk_Mc_top 9 rfl) ?_
            refine wp_aald (ck_get kk_Mc_top 10 rfl) (by assumption) (by first | assumption | exact ixk_nI (by omega) (by omega)) (by assumption) ?_
            refine wp_astore_n (ck_get kk_Mc_top 11 rfl) (by decide) rfl ?_
            refine wp_iload_n rfl (ck_get kk_Mc_top 12 rfl) ?_
            refine wp_iconst (v := nI 1) (by decide) (ck_get kk_Mc_top 13 rfl) ?_
            first | refine wp_icmp_ltN (t := 46) (ck_get kk_Mc_top 14 rfl) (by decide) (by omega) (by omega) (fun hc24 => ?_) (fun hc24 => ?_) | refine wp_icmp_lt (t := 46) (ck_get kk_Mc_top 14 rfl) (by decide) (fun hc24 => ?_) (fun hc24 => ?_)
            · omega
            · refine wp_iload_n rfl (ck_get kk_Mc_top 15 rfl) ?_
              refine wp_aload_n rfl (ck_get kk_Mc_top 16 rfl) ?_
              first | refine wp_getIv (ck_get kk_Mc_top 17 rfl) fl_Mc_114 (by assumption) (by assumption) ?_ | refine wp_getI (ck_get kk_Mc_top 17 rfl) fl_Mc_114 (by assumption) ?_
              first | refine wp_icmp_gtN (t := 46) (ck_get kk_Mc_top 18 rfl) (by decide) (by omega) (by omega) (fun hc32 => ?_) (fun hc32 => ?_) | refine wp_icmp_gt (t := 46) (ck_get kk_Mc_top 18 rfl) (by decide) (fun hc32 => ?_) (fun hc32 => ?_)
              · omega
              · refine wp_aload_n rfl (ck_get kk_Mc_top 19 rfl) ?_
                refine wp_getR (ck_get kk_Mc_top 20 rfl) fl_Mc_131 (by assumption) (by assumption) ?_
                refine wp_iload_n rfl (ck_get kk_Mc_top 21 rfl) ?_
                refine wp_iconst (v := nI 1) (by decide) (ck_get kk_Mc_top 22 rfl) ?_
                refine wp_isubN (ck_get kk_Mc_top 23 rfl) (by omega) ?_
                refine wp_ialdv (v := nI ((tSt ((sWo (zS z)).2 k)).getD (j - 1) 0)) (ck_get kk_Mc_top 24 rfl) (by assumption) (ixk_nI (k := j - 1) (by omega) (by omega)) (e) ?_
                refine wp_goto (t := 47) (ck_get kk_Mc_top 25 rfl) (by decide) ?_
                refine wp_ireturn (ck_get kk_Mc_top 27 rfl) rfl rfl ⟨_, rfl, ?_⟩
                exact ⟨rfl, hC', MSame.refl _⟩
          · exact absurd hc4 (by decide)
        · skip
          obtain ⟨hM, hSM, hUM, hIM, hDM, hPM, hNM, hBM⟩ := id h
          have to0 := hM.1
          have rfkept := MoAt.r hM 1 rfl
          have tfkept := MoAt.t hM 1 rfl
          have e0 : mI M (1020 + 2) (92 * k + 0) = nI (tSt ((sWo (zS z)).2 k)).length := (hSM.1.t (b := 0) (pb := 0) ht).1.1
          have e : mI M (1020 + 2) (92 * k + (1 + j - 1)) = nI ((tSt ((sWo (zS z)).2 k)).getD (j - 1) 0) := by
            have := (hSM.1.t (b := 0) (pb := 0) ht).1.2.at (i := j - 1) (by omega)
            rw [show 92 * k + (1 + j - 1) = 92 * k + 1 + (j - 1) by omega]; exact this
          have hl : decide (nI 1 ≤ nI j ∧ nI j ≤ nI (tSt ((sWo (zS z)).2 k)).length) = true := decide_eq_true ⟨nI_le (by omega) (by omega), nI_le (by omega) (by omega)⟩
          refine cw_entry 0 pf_Mo_top rfl ?_
          refine wp_iload_n rfl (ck_get kk_Mo_top 0 rfl) ?_
          refine wp_cS1i (ck_get kk_Mo_top 1 rfl) ml_Mo_152 (by omega) (Nat.le_of_ble_eq_true rfl) (Ci.to (m_isTenant) ?_)
          rintro _ M1 ⟨rfl, eqm1⟩
          obtain rfl := eqm1.symm
          rw [bt]
          first | refine wp_if_eqN (t := 42) (ck_get kk_Mo_top 2 rfl) (by decide) (by omega) (fun hc4 => ?_) (fun hc4 => ?_) | refine wp_if_eq (t := 42) (ck_get kk_Mo_top 2 rfl) (by decide) (fun hc4 => ?_) (fun hc4 => ?_)
          · exact absurd hc4 (by decide)
          · refine wp_iload_n rfl (ck_get kk_Mo_top 3 rfl) ?_
            refine wp_iconst (v := nI 1) (by decide) (ck_get kk_Mo_top 4 rfl) ?_
            refine wp_aload_n rfl (ck_get kk_Mo_top 5 rfl) ?_
            refine wp_getR (ck_get kk_Mo_top 6 rfl) fl_Mo_28 (by assumption) (by assumption) ?_
            refine wp_iload_n rfl (ck_get kk_Mo_top 7 rfl) ?_
            refine wp_iconst (v := nI 0) (by decide) (ck_get kk_Mo_top 8 rfl) ?_
            refine wp_cS2i (ck_get kk_Mo_top 9 rfl) ml_Mo_142 (by omega) (Nat.le_of_ble_eq_true rfl) (Ci.to (m_at) ?_)
            rintro _ M1 ⟨rfl, eqm1⟩
            obtain rfl := eqm1.symm
            refine wp_ialdv (v := nI (tSt ((sWo (zS z)).2 k)).length) (ck_get kk_Mo_top 10 rfl) (by assumption) (ixk_nI (k := 92 * k + 0) (by omega) (by omega)) (e0) ?_
            refine wp_cS3i (ck_get kk_Mo_top 11 rfl) ml_Mo_18 (by omega) (Nat.le_of_ble_eq_true rfl) (Ci.to (m_liesG) ?_)
            rintro _ M1 ⟨rfl, eqm1⟩
            obtain rfl := eqm1.symm
            rw [hl]
            first | refine wp_if_eqN (t := 42) (ck_get kk_Mo_top 12 rfl) (by decide) (by omega) (fun hc22 => ?_) (fun hc22 => ?_) | refine wp_if_eq (t := 42) (ck_get kk_Mo_top 12 rfl) (by decide) (fun hc22 => ?_) (fun hc22 => ?_)
            · exact absurd hc22 (by decide)
            · refine wp_aload_n rfl (ck_get kk_Mo_top 13 rfl) ?_
              refine wp_getR (ck_get kk_Mo_top 14 rfl) fl_Mo_28 (by assumption) (by assumption) ?_
              refine wp_iload_n rfl (ck_get kk_Mo_top 15 rfl) ?_
              refine wp_iconst (v := nI 1) (by decide) (ck_get kk_Mo_top 16 rfl) ?_
              refine wp_iload_n rfl (ck_get kk_Mo_top 17 rfl) ?_
              first | refine wp_iaddN (ck_get kk_Mo_top 18 rfl) ?_ | refine wp_iadd (ck_get kk_Mo_top 18 rfl) ?_
              refine wp_iconst (v := nI 1) (by decide) (ck_get kk_Mo_top 19 rfl) ?_
              refine wp_isubN (ck_get kk_Mo_top 20 rfl) (by omega) ?_
              refine wp_cS2i (ck_get kk_Mo_top 21 rfl) ml_Mo_142 (by omega) (Nat.le_of_ble_eq_true rfl) (Ci.to (m_at) ?_)
              rintro _ M1 ⟨rfl, eqm1⟩
              obtain rfl := eqm1.symm
              refine wp_ialdv (v := nI ((tSt ((sWo (zS z)).2 k)).getD (j - 1) 0)) (ck_get kk_Mo_top 22 rfl) (by assumption) (ixk_nI (k := 92 * k + (1 + j - 1)) (by omega) (by omega)) (e) ?_
              refine wp_goto (t := 43) (ck_get kk_Mo_top 23 rfl) (by decide) ?_
              refine wp_ireturn (ck_get kk_Mo_top 25 rfl) rfl rfl ⟨_, rfl, ?_⟩
              exact ⟨rfl, h, CSame.refl _⟩
    · have hno : ∀ (a : ¬ w < nI 1) (b : ¬ nI (tSt ((sWo (zS z)).2 k)).length < w), False := fun a b => i32o hwo 1 _ rfl (by omega) (by omega) a b
      refine ⟨-1, z, hO.le (by omega), fun M h => ?_, fun M h => ?_⟩
      · skip
        have hC' := h.le (Nat.le_succ c)
        obtain ⟨pf, pg, hL, hSC, hTC, hIC, hDC, hPC, hNC, hBC, hZC⟩ := h
        obtain ⟨t0, ⟨r00, hSh⟩, ⟨r01, hTr⟩, ⟨r02, hTg⟩, ⟨r03, hWa⟩, ⟨r04, hWp⟩, ⟨r06, t921, r921a, r921b, hS0, hS1⟩, ⟨r07, t922⟩, ⟨r08, t923⟩, ⟨r010, hPa⟩, ⟨r011, hJu⟩, ⟨r012, hRe⟩, ⟨r013, hCu⟩, ⟨r014, hDe⟩, ⟨r018, t959⟩, hPf⟩ := id hL
        have t1 : mT M 1 = (6, 0) := hSh.1
        have r10 : mR M 1 0 = some 2 := hSh.2.1
        have hW2 : WoAt (mT M) (mR M) 2 := hSh.2.2.1
        have t2 : mT M 2 = (9, 0) := hW2.1
        have r20 : mR M 2 0 = some 3 := hW2.2.1
        have t3 : mT M 3 = (24, 4) := hW2.2.2.1
        have t31 : mT M 31 = (8, 0) := hTr.1
        have t924 : mT M 924 = (3, 0) := hPa.1
        have t934 : mT M 934 = (2, 0) := hJu.1
        have t938 : mT M 938 = (5, 0) := hRe.1
        have t947 : mT M 947 = (0, 0) := hCu.1
        have t952 : mT M 952 = (1, 0) := hDe.1
        have rTe : mR M 3 k = some (4 + 6 * k) := (hW2.2.2.2 k ht).1
        have hTA : TeAt (mT M) (mR M) (4 + 6 * k) := (hW2.2.2.2 k ht).2
        have hTH : TeHas (mI M) (mJ M) (4 + 6 * k) ((sWo (zS z)).2 k) := hSC.1.2 k ht
        have tTe := hTA.1
        have e1 := hTH.1
        refine cw_entry 1 pf_Mc_top rfl ?_
        refine wp_iload_n rfl (ck_get kk_Mc_top 0 rfl) ?_
        refine wp_cS1i (ck_get kk_Mc_top 1 rfl) ml_Mc_103 (by omega) (Nat.le_of_ble_eq_true rfl) (Ci.to (c_isTenant) ?_)
        rintro _ M1 ⟨rfl, eqm1⟩
        obtain rfl := eqm1.symm
        rw [bt]
        first | refine wp_if_neN (t := 9) (ck_get kk_Mc_top 2 rfl) (by decide) (by omega) (fun hc4 => ?_) (fun hc4 => ?_) | refine wp_if_ne (t := 9) (ck_get kk_Mc_top 2 rfl) (by decide) (fun hc4 => ?_) (fun hc4 => ?_)
        · refine wp_aload_n rfl (ck_get kk_Mc_top 5 rfl) ?_
          refine wp_getR (ck_get kk_Mc_top 6 rfl) fl_Mc_12 (by assumption) (by assumption) ?_
          refine wp_getR (ck_get kk_Mc_top 7 rfl) fl_Mc_107 (by assumption) (by assumption) ?_
          refine wp_getR (ck_get kk_Mc_top 8 rfl) fl_Mc_110 (by assumption) (by assumption) ?_
          refine wp_iload_n rfl (ck_get kk_Mc_top 9 rfl) ?_
          refine wp_aald (ck_get kk_Mc_top 10 rfl) (by assumption) (by first | assumption | exact ixk_nI (by omega) (by omega)) (by assumption) ?_
          refine wp_astore_n (ck_get kk_Mc_top 11 rfl) (by decide) rfl ?_
          refine wp_iload_n rfl (ck_get kk_Mc_top 12 rfl) ?_
          refine wp_iconst (v := nI 1) (by decide) (ck_get kk_Mc_top 13 rfl) ?_
          refine wp_icmp_lt (t := 46) (ck_get kk_Mc_top 14 rfl) (by decide) (fun hc24 => ?_) (fun hc24 => ?_)
          · refine wp_iconst (v := (-1)) (by decide) (ck_get kk_Mc_top 26 rfl) ?_
            refine wp_ireturn (ck_get kk_Mc_top 27 rfl) rfl rfl ⟨_, rfl, ?_⟩
            exact ⟨rfl, hC', MSame.refl _⟩
          · refine wp_iload_n rfl (ck_get kk_Mc_top 15 rfl) ?_
            refine wp_aload_n rfl (ck_get kk_Mc_top 16 rfl) ?_
            first | refine wp_getIv (ck_get kk_Mc_top 17 rfl) fl_Mc_114 (by assumption) (by assumption) ?_ | refine wp_getI (ck_get kk_Mc_top 17 rfl) fl_Mc_114 (by assumption) ?_
            refine wp_icmp_gt (t := 46) (ck_get kk_Mc_top 18 rfl) (by decide) (fun hc32 => ?_) (fun hc32 => ?_)
            · refine wp_iconst (v := (-1)) (by decide) (ck_get kk_Mc_top 26 rfl) ?_
              refine wp_ireturn (ck_get kk_Mc_top 27 rfl) rfl rfl ⟨_, rfl, ?_⟩
              exact ⟨rfl, hC', MSame.refl _⟩
            · exact (hno hc24 hc32).elim
        · exact absurd hc4 (by decide)
      · skip
        obtain ⟨hM, hSM, hUM, hIM, hDM, hPM, hNM, hBM⟩ := id h
        have to0 := hM.1
        have rfkept := MoAt.r hM 1 rfl
        have tfkept := MoAt.t hM 1 rfl
        have e0 : mI M (1020 + 2) (92 * k + 0) = nI (tSt ((sWo (zS z)).2 k)).length := (hSM.1.t (b := 0) (pb := 0) ht).1.1
        have hl : decide (nI 1 ≤ w ∧ w ≤ nI (tSt ((sWo (zS z)).2 k)).length) = false := decide_eq_false (fun q => hno (fun h => by have a := Int32.lt_iff_toInt_lt.mp h; have b := Int32.le_iff_toInt_le.mp q.1; omega) (fun h => by have a := Int32.lt_iff_toInt_lt.mp h; have b := Int32.le_iff_toInt_le.mp q.2; omega))
        refine cw_entry 0 pf_Mo_top rfl ?_
        refine wp_iload_n rfl (ck_get kk_Mo_top 0 rfl) ?_
        refine wp_cS1i (ck_get kk_Mo_top 1 rfl) ml_Mo_152 (by omega) (Nat.le_of_ble_eq_true rfl) (Ci.to (m_isTenant) ?_)
        rintro _ M1 ⟨rfl, eqm1⟩
        obtain rfl := eqm1.symm
        rw [bt]
        first | refine wp_if_eqN (t := 42) (ck_get kk_Mo_top 2 rfl) (by decide) (by omega) (fun hc4 => ?_) (fun hc4 => ?_) | refine wp_if_eq (t := 42) (ck_get kk_Mo_top 2 rfl) (by decide) (fun hc4 => ?_) (fun hc4 => ?_)
        · exact absurd hc4 (by decide)
        · refine wp_iload_n rfl (ck_get kk_Mo_top 3 rfl) ?_
          refine wp_iconst (v := nI 1) (by decide) (ck_get kk_Mo_top 4 rfl) ?_
          refine wp_aload_n rfl (ck_get kk_Mo_top 5 rfl) ?_
          refine wp_getR (ck_get kk_Mo_top 6 rfl) fl_Mo_28 (by assumption) (by assumption) ?_
          refine wp_iload_n rfl (ck_get kk_Mo_top 7 rfl) ?_
          refine wp_iconst (v := nI 0) (by decide) (ck_get kk_Mo_top 8 rfl) ?_
          refine wp_cS2i (ck_get kk_Mo_top 9 rfl) ml_Mo_142 (by omega) (Nat.le_of_ble_eq_true rfl) (Ci.to (m_at) ?_)
          rintro _ M1 ⟨rfl, eqm1⟩
          obtain rfl := eqm1.symm
          refine wp_ialdv (v := nI (tSt ((sWo (zS z)).2 k)).length) (ck_get kk_Mo_top 10 rfl) (by assumption) (ixk_nI (k := 92 * k + 0) (by omega) (by omega)) (e0) ?_
          refine wp_cS3i (ck_get kk_Mo_top 11 rfl) ml_Mo_18 (by omega) (Nat.le_of_ble_eq_true rfl) (Ci.to (m_liesG) ?_)
          rintro _ M1 ⟨rfl, eqm1⟩
          obtain rfl := eqm1.symm
          rw [hl]
          first | refine wp_if_eqN (t := 42) (ck_get kk_Mo_top 12 rfl) (by decide) (by omega) (fun hc22 => ?_) (fun hc22 => ?_) | refine wp_if_eq (t := 42) (ck_get kk_Mo_top 12 rfl) (by decide) (fun hc22 => ?_) (fun hc22 => ?_)
          · refine wp_iconst (v := (-1)) (by decide) (ck_get kk_Mo_top 24 rfl) ?_
            refine wp_ireturn (ck_get kk_Mo_top 25 rfl) rfl rfl ⟨_, rfl, ?_⟩
            exact ⟨rfl, h, CSame.refl _⟩
          · exact absurd (by decide) hc22
  · refine ⟨-1, z, hO.le (by omega), fun M h => ?_, fun M h => ?_⟩
    · skip
      have hC' := h.le (Nat.le_succ c)
      obtain ⟨pf, pg, hL, hSC, hTC, hIC, hDC, hPC, hNC, hBC, hZC⟩ := h
      obtain ⟨t0, ⟨r00, hSh⟩, ⟨r01, hTr⟩, ⟨r02, hTg⟩, ⟨r03, hWa⟩, ⟨r04, hWp⟩, ⟨r06, t921, r921a, r921b, hS0, hS1⟩, ⟨r07, t922⟩, ⟨r08, t923⟩, ⟨r010, hPa⟩, ⟨r011, hJu⟩, ⟨r012, hRe⟩, ⟨r013, hCu⟩, ⟨r014, hDe⟩, ⟨r018, t959⟩, hPf⟩ := id hL
      have t1 : mT M 1 = (6, 0) := hSh.1
      have r10 : mR M 1 0 = some 2 := hSh.2.1
      have hW2 : WoAt (mT M) (mR M) 2 := hSh.2.2.1
      have t2 : mT M 2 = (9, 0) := hW2.1
      have r20 : mR M 2 0 = some 3 := hW2.2.1
      have t3 : mT M 3 = (24, 4) := hW2.2.2.1
      have t31 : mT M 31 = (8, 0) := hTr.1
      have t924 : mT M 924 = (3, 0) := hPa.1
      have t934 : mT M 934 = (2, 0) := hJu.1
      have t938 : mT M 938 = (5, 0) := hRe.1
      have t947 : mT M 947 = (0, 0) := hCu.1
      have t952 : mT M 952 = (1, 0) := hDe.1
      refine cw_entry 1 pf_Mc_top rfl ?_
      refine wp_iload_n rfl (ck_get kk_Mc_top 0 rfl) ?_
      refine wp_cS1i (ck_get kk_Mc_top 1 rfl) ml_Mc_103 (by omega) (Nat.le_of_ble_eq_true rfl) (Ci.to (c_isTenant) ?_)
      rintro _ M1 ⟨rfl, eqm1⟩
      obtain rfl := eqm1.symm
      rw [bt]
      first | refine wp_if_neN (t := 9) (ck_get kk_Mc_top 2 rfl) (by decide) (by omega) (fun hc4 => ?_) (fun hc4 => ?_) | refine wp_if_ne (t := 9) (ck_get kk_Mc_top 2 rfl) (by decide) (fun hc4 => ?_) (fun hc4 => ?_)
      · exact absurd (by decide) hc4
      · refine wp_iconst (v := (-1)) (by decide) (ck_get kk_Mc_top 3 rfl) ?_
        refine wp_ireturn (ck_get kk_Mc_top 4 rfl) rfl rfl ⟨_, rfl, ?_⟩
        exact ⟨rfl, hC', MSame.refl _⟩
    · skip
      obtain ⟨hM, hSM, hUM, hIM, hDM, hPM, hNM, hBM⟩ := id h
      have to0 := hM.1
      refine cw_entry 0 pf_Mo_top rfl ?_
      refine wp_iload_n rfl (ck_get kk_Mo_top 0 rfl) ?_
      refine wp_cS1i (ck_get kk_Mo_top 1 rfl) ml_Mo_152 (by omega) (Nat.le_of_ble_eq_true rfl) (Ci.to (m_isTenant) ?_)
      rintro _ M1 ⟨rfl, eqm1⟩
      obtain rfl := eqm1.symm
      rw [bt]
      first | refine wp_if_eqN (t := 42) (ck_get kk_Mo_top 2 rfl) (by decide) (by omega) (fun hc4 => ?_) (fun hc4 => ?_) | refine wp_if_eq (t := 42) (ck_get kk_Mo_top 2 rfl) (by decide) (fun hc4 => ?_) (fun hc4 => ?_)
      · refine wp_iconst (v := (-1)) (by decide) (ck_get kk_Mo_top 24 rfl) ?_
        refine wp_ireturn (ck_get kk_Mo_top 25 rfl) rfl rfl ⟨_, rfl, ?_⟩
        exact ⟨rfl, h, CSame.refl _⟩
      · exact absurd (by decide) hc4
theorem ZOK.tape {c : Nat} {z : ST} {t : Nat × (Nat → Nat)} (h : ZOK c z) (h1 : t.1 ≤ 400) (h2 : ∀ j, t.2 j < 256) : ZOK c (zS z, zU z, zI z, zD z, t, z.2.2.2.2.2) := by
  obtain ⟨a1, a2, a3, a4, a5, a6⟩ := h
  exact ⟨a1, a2, a3, h1, h2, a6⟩
/-- the tape alone was changed -/
theorem CR.tape {c : Nat} {z : ST} {M : Mem} {t : Nat × (Nat → Nat)} {I2 : Nat → Nat → Int32} (h : CR c z M) (hI : ∀ x, x ≠ 0 → x ≠ 923 → I2 x = mI M x) (h0 : ∀ k, k ≠ 9 → I2 0 k = mI M 0 k) (h9 : I2 0 9 = nI t.1) (ht : ∀ j, j < 400 → I2 923 j = nI (t.2 j)) : CR (c + 1) (zS z, zU z, zI z, zD z, t, z.2.2.2.2.2) (mk2 M I2 (mJ M)) := by
  obtain ⟨pf, pg, hL, h1, h2, h3, h4, h5', h6, h7, h8⟩ := h
  have hP := hL.2.2.2.2.2.2.2.2.2.2.2.2.2.2.2
  have e4 : ∀ x, x ≠ 0 → x ≠ 923 → I2 x = mI M x ∧ mJ M x = mJ M x := fun x a b => ⟨hI x a b, rfl⟩
  have hk : HiK (mT M) (mR M) (mI M) (mT M) (mR M) I2 := HiK.same (fun x hx => hI x (by omega) (by omega))
  exact ⟨pf, pg, hL, h1.kept (fun x q1 q2 => e4 x (by omega) (by omega)) rfl hk, h2.kept ⟨hI 31 (by omega) (by omega), hI 33 (by omega) (by omega)⟩ (fun s hs x q1 q2 => e4 x (by have := slA_lt (hP.1 s hs).1; omega) (by have := slA_lt (hP.1 s hs).1; omega)), h3.kept (hI 922 (by omega) (by omega)) (fun x q1 q2 => e4 x (by omega) (by omega)) ⟨rfl, rfl⟩ hk, h4.kept (h0 5 (by omega)) (fun x q1 q2 => e4 x (by omega) (by omega)), ⟨h9, ht⟩, h6.kept ⟨h0 15 (by omega), h0 16 (by omega), h0 17 (by omega)⟩ (congrFun (hI 924 (by omega) (by omega)) 1) (hI 959 (by omega) (by omega)), h7.kept rfl (hI 949 (by omega) (by omega)) (fun v hv _ => ⟨rfl, hI v (by omega) (by omega)⟩), h8.le (by omega)⟩
theorem MR.tape {z : ST} {M : Mem} {t : Nat × (Nat → Nat)} {I2 : Nat → Nat → Int32} (h : MR z M) (hI : ∀ x, x ≠ 1020 → x ≠ 1030 → x ≠ 1031 → I2 x = mI M x) (h0 : ∀ k, k ≠ 16 → I2 1020 k = mI M 1020 k) (h16 : I2 1020 16 = nI t.1) (ht : ∀ j, j < 400 → I2 1030 j = sgb (t.2 j)) : MR (zS z, zU z, zI z, zD z, t, z.2.2.2.2.2) (mk2 M I2 (mJ M)) := by
  obtain ⟨hM, h1, h2, h3, h4, h5, h6, h7⟩ := h
  refine ⟨hM, ?_, ?_, ?_, ?_, ⟨h16, ht, ?_⟩, ?_, ?_⟩
  · show ShM (I2 1022) (mJ M 1023) (zS z)
    rw [hI 1022 (by omega) (by omega) (by omega)]; exact h1
  · show MRu I2 (mJ M) (zU z)
    unfold MRu at h2 ⊢
    rw [h0 36 (by omega), hI 1036 (by omega) (by omega) (by omega)]; exact h2
  · show MRi I2 (mJ M) (zI z)
    unfold MRi at h3 ⊢
    rw [hI 1024 (by omega) (by omega) (by omega), hI 1026 (by omega) (by omega) (by omega)]; exact h3
  · show MRd I2 (zD z)
    unfold MRd at h4 ⊢
    rw [h0 62 (by omega), hI 1055 (by omega) (by omega) (by omega)]; exact h4
  · show ∀ j, j < 131 → I2 1029 j = nI (wdA j)
    rw [hI 1029 (by omega) (by omega) (by omega)]; exact h5.2.2
  · show MRn I2 z
    obtain ⟨a1, a2, a3, a4, a5, a6⟩ := h6
    refine ⟨by rw [h0 9 (by omega)]; exact a1, by rw [h0 54 (by omega)]; exact a2, by rw [h0 0 (by omega)]; exact a3, by rw [h0 17 (by omega)]; exact a4, by rw [h0 27 (by omega)]; exact a5, by rw [hI 1021 (by omega) (by omega) (by omega)]; exact a6⟩
  · show MRb I2 (zG z)
    unfold MRb at h7 ⊢
    rw [h0 42 (by omega), hI 1043 (by omega) (by omega) (by omega)]; exact h7
theorem b_end {w : Int32} : Both g Y_Mc_end Y_Mo_end [.int w] := by
  intro c z hc hO
  have h400 := hO.2.2.2.1
  rcases i32c w ((zT z).1 + 1) (by omega) with ⟨j, hj, rfl⟩ | hwo
  · refine ⟨nI j, (zS z, zU z, zI z, zD z, (j, (zT z).2), z.2.2.2.2.2), (hO.le (Nat.le_succ c)).tape (by show j ≤ 400; omega) hO.2.2.2.2.1, fun M h => ?_, fun M h => ?_⟩
    · have hCR := h
      have hC' := h.le (Nat.le_succ c)
      obtain ⟨pf, pg, hL, hSC, hTC, hIC, hDC, hPC, hNC, hBC, hZC⟩ := h
      obtain ⟨t0, ⟨r00, hSh⟩, ⟨r01, hTr⟩, ⟨r02, hTg⟩, ⟨r03, hWa⟩, ⟨r04, hWp⟩, ⟨r06, t921, r921a, r921b, hS0, hS1⟩, ⟨r07, t922⟩, ⟨r08, t923⟩, ⟨r010, hPa⟩, ⟨r011, hJu⟩, ⟨r012, hRe⟩, ⟨r013, hCu⟩, ⟨r014, hDe⟩, ⟨r018, t959⟩, hPf⟩ := id hL
      have t1 : mT M 1 = (6, 0) := hSh.1
      have r10 : mR M 1 0 = some 2 := hSh.2.1
      have hW2 : WoAt (mT M) (mR M) 2 := hSh.2.2.1
      have t2 : mT M 2 = (9, 0) := hW2.1
      have r20 : mR M 2 0 = some 3 := hW2.2.1
      have t3 : mT M 3 = (24, 4) := hW2.2.2.1
      have t31 : mT M 31 = (8, 0) := hTr.1
      have t924 : mT M 924 = (3, 0) := hPa.1
      have t934 : mT M 934 = (2, 0) := hJu.1
      have t938 : mT M 938 = (5, 0) := hRe.1
      have t947 : mT M 947 = (0, 0) := hCu.1
      have t952 : mT M 952 = (1, 0) := hDe.1
      have e9 := hPC.1
      refine cw_entry 0 pf_Mc_end rfl ?_
      refine wp_iload_n rfl (ck_get kk_Mc_end 0 rfl) ?_
      first | refine wp_if_ltN (t := 12) (ck_get kk_Mc_end 1 rfl) (by decide) (by omega) (fun hc1 => ?_) (fun hc1 => ?_) | refine wp_if_lt (t := 12) (ck_get kk_Mc_end 1 rfl) (by decide) (fun hc1 => ?_) (fun hc1 => ?_)
      · exact hc1.elim
      · refine wp_iload_n rfl (ck_get kk_Mc_end 2 rfl) ?_
        refine wp_aload_n rfl (ck_get kk_Mc_end 3 rfl) ?_
        first | refine wp_getIv (ck_get kk_Mc_end 4 rfl) fl_Mc_52 (by assumption) (by assumption) ?_ | refine wp_getI (ck_get kk_Mc_end 4 rfl) fl_Mc_52 (by assumption) ?_
        first | refine wp_icmp_leN (t := 14) (ck_get kk_Mc_end 5 rfl) (by decide) (by omega) (by omega) (fun hc9 => ?_) (fun hc9 => ?_) | refine wp_icmp_le (t := 14) (ck_get kk_Mc_end 5 rfl) (by decide) (fun hc9 => ?_) (fun hc9 => ?_)
        · refine wp_aload_n rfl (ck_get kk_Mc_end 8 rfl) ?_
          refine wp_iload_n rfl (ck_get kk_Mc_end 9 rfl) ?_
          refine wp_putI (ck_get kk_Mc_end 10 rfl) fl_Mc_52 (by decide +kernel) (by assumption) (okI_int _) ?_
          refine wp_iload_n rfl (ck_get kk_Mc_end 11 rfl) ?_
          refine wp_ireturn (ck_get kk_Mc_end 12 rfl) rfl rfl ⟨_, rfl, ?_⟩
          exact ⟨rfl, hCR.tape (t := (j, (zT z).2)) (fun x a b => up2_o a) (fun k hk => up2_k hk) up2_v (fun q hq => by rw [up2_o (by omega)]; exact hPC.2 q hq), MSame.mk2 (fun x a b => ⟨up2_o (by omega), rfl⟩)⟩
        · omega
    · skip
      obtain ⟨hM, hSM, hUM, hIM, hDM, hPM, hNM, hBM⟩ := id h
      have to0 := hM.1
      have e9 := hPM.1
      have hl : decide (nI 0 ≤ nI j ∧ nI j ≤ nI (zT z).1) = true := decide_eq_true ⟨nI_le (by omega) (by omega), nI_le (by omega) (by omega)⟩
      refine cw_entry 0 pf_Mo_end rfl ?_
      refine wp_iload_n rfl (ck_get kk_Mo_end 0 rfl) ?_
      refine wp_iconst (v := nI 0) (by decide) (ck_get kk_Mo_end 1 rfl) ?_
      refine wp_aload_n rfl (ck_get kk_Mo_end 2 rfl) ?_
      first | refine wp_getIv (ck_get kk_Mo_end 3 rfl) fl_Mo_179 (by assumption) (by assumption) ?_ | refine wp_getI (ck_get kk_Mo_end 3 rfl) fl_Mo_179 (by assumption) ?_
      refine wp_cS3i (ck_get kk_Mo_end 4 rfl) ml_Mo_18 (by omega) (Nat.le_of_ble_eq_true rfl) (Ci.to (m_liesG) ?_)
      rintro _ M1 ⟨rfl, eqm1⟩
      obtain rfl := eqm1.symm
      rw [hl]
      first | refine wp_if_neN (t := 14) (ck_get kk_Mo_end 5 rfl) (by decide) (by omega) (fun hc9 => ?_) (fun hc9 => ?_) | refine wp_if_ne (t := 14) (ck_get kk_Mo_end 5 rfl) (by decide) (fun hc9 => ?_) (fun hc9 => ?_)
      · refine wp_aload_n rfl (ck_get kk_Mo_end 8 rfl) ?_
        refine wp_iload_n rfl (ck_get kk_Mo_end 9 rfl) ?_
        refine wp_putI (ck_get kk_Mo_end 10 rfl) fl_Mo_179 (by decide +kernel) (by assumption) (okI_int _) ?_
        refine wp_iload_n rfl (ck_get kk_Mo_end 11 rfl) ?_
        refine wp_ireturn (ck_get kk_Mo_end 12 rfl) rfl rfl ⟨_, rfl, ?_⟩
        exact ⟨rfl, h.tape (t := (j, (zT z).2)) (fun x a b _ => up2_o a) (fun k hk => up2_k hk) up2_v (fun q hq => by rw [up2_o (by omega)]; exact hPM.2.1 q hq), CSame.mk2 (fun x a => ⟨up2_o (by omega), rfl⟩)⟩
      · exact absurd hc9 (by decide)
  · have hno : ∀ (a : ¬ w < nI 0) (b : ¬ nI (zT z).1 < w), False := fun a b => i32o hwo 0 _ rfl (by omega) (by omega) a b
    refine ⟨-1, z, hO.le (by omega), fun M h => ?_, fun M h => ?_⟩
    · skip
      have hC' := h.le (Nat.le_succ c)
      obtain ⟨pf, pg, hL, hSC, hTC, hIC, hDC, hPC, hNC, hBC, hZC⟩ := h
      obtain ⟨t0, ⟨r00, hSh⟩, ⟨r01, hTr⟩, ⟨r02, hTg⟩, ⟨r03, hWa⟩, ⟨r04, hWp⟩, ⟨r06, t921, r921a, r921b, hS0, hS1⟩, ⟨r07, t922⟩, ⟨r08, t923⟩, ⟨r010, hPa⟩, ⟨r011, hJu⟩, ⟨r012, hRe⟩, ⟨r013, hCu⟩, ⟨r014, hDe⟩, ⟨r018, t959⟩, hPf⟩ := id hL
      have t1 : mT M 1 = (6, 0) := hSh.1
      have r10 : mR M 1 0 = some 2 := hSh.2.1
      have hW2 : WoAt (mT M) (mR M) 2 := hSh.2.2.1
      have t2 : mT M 2 = (9, 0) := hW2.1
      have r20 : mR M 2 0 = some 3 := hW2.2.1
      have t3 : mT M 3 = (24, 4) := hW2.2.2.1
      have t31 : mT M 31 = (8, 0) := hTr.1
      have t924 : mT M 924 = (3, 0) := hPa.1
      have t934 : mT M 934 = (2, 0) := hJu.1
      have t938 : mT M 938 = (5, 0) := hRe.1
      have t947 : mT M 947 = (0, 0) := hCu.1
      have t952 : mT M 952 = (1, 0) := hDe.1
      have e9 := hPC.1
      refine cw_entry 0 pf_Mc_end rfl ?_
      refine wp_iload_n rfl (ck_get kk_Mc_end 0 rfl) ?_
      refine wp_if_lt (t := 12) (ck_get kk_Mc_end 1 rfl) (by decide) (fun hc1 => ?_) (fun hc1 => ?_)
      · refine wp_iconst (v := (-1)) (by decide) (ck_get kk_Mc_end 6 rfl) ?_
        refine wp_ireturn (ck_get kk_Mc_end 7 rfl) rfl rfl ⟨_, rfl, ?_⟩
        exact ⟨rfl, hC', MSame.refl _⟩
      · refine wp_iload_n rfl (ck_get kk_Mc_end 2 rfl) ?_
        refine wp_aload_n rfl (ck_get kk_Mc_end 3 rfl) ?_
        first | refine wp_getIv (ck_get kk_Mc_end 4 rfl) fl_Mc_52 (by assumption) (by assumption) ?_ | refine wp_getI (ck_get kk_Mc_end 4 rfl) fl_Mc_52 (by assumption) ?_
        refine wp_icmp_le (t := 14) (ck_get kk_Mc_end 5 rfl) (by decide) (fun hc9 => ?_) (fun hc9 => ?_)
        · exact (hno hc1 (fun h => by have a := Int32.lt_iff_toInt_lt.mp h; have b := Int32.le_iff_toInt_le.mp hc9; omega)).elim
        · refine wp_iconst (v := (-1)) (by decide) (ck_get kk_Mc_end 6 rfl) ?_
          refine wp_ireturn (ck_get kk_Mc_end 7 rfl) rfl rfl ⟨_, rfl, ?_⟩
          exact ⟨rfl, hC', MSame.refl _⟩
    · skip
      obtain ⟨hM, hSM, hUM, hIM, hDM, hPM, hNM, hBM⟩ := id h
      have to0 := hM.1
      have e9 := hPM.1
      have hl : decide (nI 0 ≤ w ∧ w ≤ nI (zT z).1) = false := decide_eq_false (fun q => hno (fun h => by have a := Int32.lt_iff_toInt_lt.mp h; have b := Int32.le_iff_toInt_le.mp q.1; omega) (fun h => by have a := Int32.lt_iff_toInt_lt.mp h; have b := Int32.le_iff_toInt_le.mp q.2; omega))
      refine cw_entry 0 pf_Mo_end rfl ?_
      refine wp_iload_n rfl (ck_get kk_Mo_end 0 rfl) ?_
      refine wp_iconst (v := nI 0) (by decide) (ck_get kk_Mo_end 1 rfl) ?_
      refine wp_aload_n rfl (ck_get kk_Mo_end 2 rfl) ?_
      first | refine wp_getIv (ck_get kk_Mo_end 3 rfl) fl_Mo_179 (by assumption) (by assumption) ?_ | refine wp_getI (ck_get kk_Mo_end 3 rfl) fl_Mo_179 (by assumption) ?_
      refine wp_cS3i (ck_get kk_Mo_end 4 rfl) ml_Mo_18 (by omega) (Nat.le_of_ble_eq_true rfl) (Ci.to (m_liesG) ?_)
      rintro _ M1 ⟨rfl, eqm1⟩
      obtain rfl := eqm1.symm
      rw [hl]
      first | refine wp_if_neN (t := 14) (ck_get kk_Mo_end 5 rfl) (by decide) (by omega) (fun hc9 => ?_) (fun hc9 => ?_) | refine wp_if_ne (t := 14) (ck_get kk_Mo_end 5 rfl) (by decide) (fun hc9 => ?_) (fun hc9 => ?_)
      · exact absurd (by decide) hc9
      · refine wp_iconst (v := (-1)) (by decide) (ck_get kk_Mo_end 6 rfl) ?_
        refine wp_ireturn (ck_get kk_Mo_end 7 rfl) rfl rfl ⟨_, rfl, ?_⟩
        exact ⟨rfl, h, CSame.refl _⟩
end TOP
