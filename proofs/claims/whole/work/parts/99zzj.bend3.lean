/-! ===== bend ===== -/
section BNF
variable {g : Gl} {M : Mem}
theorem n1_le {k : Nat} (h : k < 2147483648) : (-1 : Int32) ≤ nI k := by
  have m1 : (-1 : Int32).toInt = -1 := by decide
  refine Int32.le_iff_toInt_le.mpr ?_
  rw [nI_toInt h]
  omega
theorem b_bend {a b : Int32} : Both g Y_Mc_bend Y_Mo_bend [.int a, .int b] := by
  intro c z hc hO
  have hB : tot (sWo (zS z)) ≤ 400000000 := by
    have h1 : tot (sWo (zS z)) ≤ bC c := hO.1.2.1
    have h2 : bC c < 400000000 := by unfold bC; omega
    omega
  by_cases hin : inB a 4 = true
  · obtain ⟨t, ht, rfl⟩ := inB_t hin (by omega)
    have hl := nbL_ok (f := mz (sWo (zS z)) t)
    have hl1 := nbL_1 (f := mz (sWo (zS z)) t)
    rcases i32c b (nbL (mz (sWo (zS z)) t) + 1) (by omega) with ⟨k, hk, rfl⟩ | ⟨-, e⟩
    · refine ⟨nI (nbI (mz (sWo (zS z)) t) k), z, hO.le (by omega), fun M h => ?_, fun M h => ?_⟩
      · have hCR := h
        have hC' := h.le (Nat.le_succ c)
        obtain ⟨pf, pg, hL, hSC, hTC, hIC, hDC, hPC, hNC, hBC, hZC⟩ := h
        obtain ⟨t0, ⟨r00, hSh⟩, ⟨r01, hTr⟩, ⟨r02, hTg⟩, ⟨r03, hWa⟩, ⟨r04, hWp⟩, ⟨r06, t921, r921a, r921b, hS0, hS1⟩, ⟨r07, t922⟩, ⟨r08, t923⟩, ⟨r010, hPa⟩, ⟨r011, hJu⟩, ⟨r012, hRe⟩, ⟨r013, hCu⟩, ⟨r014, hDe⟩, ⟨r018, t959⟩, hPf⟩ := id hL
        have t1 : mT M 1 = (6, 0) := hSh.1
        have r10 : mR M 1 0 = some 2 := hSh.2.1
        have hW2 : WoAt (mT M) (mR M) 2 := hSh.2.2.1
        have t2 : mT M 2 = (9, 0) := hW2.1
        have r20 : mR M 2 0 = some 3 := hW2.2.1
        have t3 : mT M 3 = (24, 4) := hW2.2.2.1
        have t31 : mT M 31 = (8, 0) := hTr.1
        have t924 : mT M 924 = (3, 0) := hPa.1
        have t934 : mT M 934 = (2, 0) := hJu.1
        have t938 : mT M 938 = (5, 0) := hRe.1
        have t947 : mT M 947 = (0, 0) := hCu.1
        have t952 : mT M 952 = (1, 0) := hDe.1
        have rTe : mR M 3 t = some (4 + 6 * t) := (hW2.2.2.2 t ht).1
        have hTA : TeAt (mT M) (mR M) (4 + 6 * t) := (hW2.2.2.2 t ht).2
        have hTH : TeHas (mI M) (mJ M) (4 + 6 * t) ((sWo (zS z)).2 t) := hSC.1.2 t ht
        have tTe := hTA.1
        have rb : mR M 947 0 = some 948 := hCu.2.1
        have tb : mT M 948 = (20, 25) := hCu.2.2.1
        refine cw_entry 0 pf_Mc_bend rfl ?_
        refine wp_iload_n rfl (ck_get kk_Mc_bend 0 rfl) ?_
        refine wp_cS1i (ck_get kk_Mc_bend 1 rfl) ml_Mc_103 (by omega) (Nat.le_of_ble_eq_true rfl) (Ci.to (c_isTenant) ?_)
        rintro _ M1 ⟨rfl, eqm1⟩
        obtain rfl := eqm1.symm
        rw [hin]
        first | refine wp_if_neN (t := 9) (ck_get kk_Mc_bend 2 rfl) (by decide) (by omega) (fun hc4 => ?_) (fun hc4 => ?_) | refine wp_if_ne (t := 9) (ck_get kk_Mc_bend 2 rfl) (by decide) (fun hc4 => ?_) (fun hc4 => ?_)
        · refine wp_aload_n rfl (ck_get kk_Mc_bend 5 rfl) ?_
          refine wp_getR (ck_get kk_Mc_bend 6 rfl) fl_Mc_80 (by assumption) (by assumption) ?_
          refine wp_aload_n rfl (ck_get kk_Mc_bend 7 rfl) ?_
          refine wp_getR (ck_get kk_Mc_bend 8 rfl) fl_Mc_12 (by assumption) (by assumption) ?_
          refine wp_getR (ck_get kk_Mc_bend 9 rfl) fl_Mc_107 (by assumption) (by assumption) ?_
          refine wp_getR (ck_get kk_Mc_bend 10 rfl) fl_Mc_110 (by assumption) (by assumption) ?_
          refine wp_iload_n rfl (ck_get kk_Mc_bend 11 rfl) ?_
          refine wp_aald (ck_get kk_Mc_bend 12 rfl) (by assumption) (by first | assumption | exact ixk_nI (by omega) (by omega)) (by assumption) ?_
          refine wp_cV1v (ck_get kk_Mc_bend 13 rfl) ml_Mc_283 (by omega) (Nat.le_of_ble_eq_true rfl) (by assumption) (Cv.to (c_load (t := t) (w := sWo (zS z)) (by exact hW2) (by exact hSC.1) (by exact hCu) ht hB) ?_)
          rintro M1 ⟨j, b2, r, w1, w2, w3, w4⟩
          subst w1
          refine wp_iload_n rfl (ck_get kk_Mc_bend 14 rfl) ?_
          refine wp_iconst (v := (-1)) (by decide) (ck_get kk_Mc_bend 15 rfl) ?_
          refine wp_icmp_ne (t := 41) (ck_get kk_Mc_bend 16 rfl) (by decide) (fun hc30 => ?_) (fun hc30 => ?_)
          · refine wp_iload_n rfl (ck_get kk_Mc_bend 21 rfl) ?_
            first | refine wp_if_ltN (t := 68) (ck_get kk_Mc_bend 22 rfl) (by decide) (by omega) (fun hc42 => ?_) (fun hc42 => ?_) | refine wp_if_lt (t := 68) (ck_get kk_Mc_bend 22 rfl) (by decide) (fun hc42 => ?_) (fun hc42 => ?_)
            · exact hc42.elim
            · refine wp_iload_n rfl (ck_get kk_Mc_bend 23 rfl) ?_
              refine wp_aload_n rfl (ck_get kk_Mc_bend 24 rfl) ?_
              refine wp_getR (ck_get kk_Mc_bend 25 rfl) fl_Mc_80 (by assumption) (by assumption) ?_
              refine wp_getIv (v := nI (nbL (mz (sWo (zS z)) t) + 1)) (ck_get kk_Mc_bend 26 rfl) fl_Mc_291 (by assumption) ((by rw [cu_r]; exact w4)) ?_
              first | refine wp_icmp_geN (t := 68) (ck_get kk_Mc_bend 27 rfl) (by decide) (by omega) (by omega) (fun hc53 => ?_) (fun hc53 => ?_) | refine wp_icmp_ge (t := 68) (ck_get kk_Mc_bend 27 rfl) (by decide) (fun hc53 => ?_) (fun hc53 => ?_)
              · omega
              · refine wp_aload_n rfl (ck_get kk_Mc_bend 28 rfl) ?_
                refine wp_getR (ck_get kk_Mc_bend 29 rfl) fl_Mc_80 (by assumption) (by assumption) ?_
                refine wp_getR (ck_get kk_Mc_bend 30 rfl) fl_Mc_294 (by assumption) (by assumption) ?_
                refine wp_iload_n rfl (ck_get kk_Mc_bend 31 rfl) ?_
                refine wp_ialdv (v := nI (nbI (mz (sWo (zS z)) t) k)) (ck_get kk_Mc_bend 32 rfl) (by assumption) (ixk_nI (k := k) (by omega) (by omega)) ((by rw [cu_b]; exact w3 k (by omega))) ?_
                refine wp_goto (t := 69) (ck_get kk_Mc_bend 33 rfl) (by decide) ?_
                refine wp_ireturn (ck_get kk_Mc_bend 35 rfl) rfl rfl ⟨_, rfl, ?_⟩
                exact ⟨rfl, hCR.cu, MSame.cu⟩
          · exact absurd (by assumption) (nI_ne1 (by omega))
        · exact absurd hc4 (by decide)
      · skip
        obtain ⟨hM, hSM, hUM, hIM, hDM, hPM, hNM, hBM⟩ := id h
        have to0 := hM.1
        have rfbends := MoAt.r hM 20 rfl
        have tfbends := MoAt.t hM 20 rfl
        have rfbendMany := MoAt.r hM 21 rfl
        have tfbendMany := MoAt.t hM 21 rfl
        have hid := m_laysBends (g := g) (M := M) (f0 := mI M 1040) (b0 := mI M 1041) (n0 := mI M 1042) hM hSM.1 ht hB
        rw [be_id] at hid
        refine cw_entry 0 pf_Mo_bend rfl ?_
        refine wp_iload_n rfl (ck_get kk_Mo_bend 0 rfl) ?_
        refine wp_cS1i (ck_get kk_Mo_bend 1 rfl) ml_Mo_152 (by omega) (Nat.le_of_ble_eq_true rfl) (Ci.to (m_isTenant) ?_)
        rintro _ M1 ⟨rfl, eqm1⟩
        obtain rfl := eqm1.symm
        rw [hin]
        first | refine wp_if_eqN (t := 12) (ck_get kk_Mo_bend 2 rfl) (by decide) (by omega) (fun hc4 => ?_) (fun hc4 => ?_) | refine wp_if_eq (t := 12) (ck_get kk_Mo_bend 2 rfl) (by decide) (fun hc4 => ?_) (fun hc4 => ?_)
        · exact absurd hc4 (by decide)
        · refine wp_iload_n rfl (ck_get kk_Mo_bend 3 rfl) ?_
          refine wp_iconst (v := (-1)) (by decide) (ck_get kk_Mo_bend 4 rfl) ?_
          refine wp_icmp_ge (t := 14) (ck_get kk_Mo_bend 5 rfl) (by decide) (fun hc9 => ?_) (fun hc9 => ?_)
          · refine wp_aload_n rfl (ck_get kk_Mo_bend 8 rfl) ?_
            refine wp_iload_n rfl (ck_get kk_Mo_bend 9 rfl) ?_
            refine wp_cV1v (ck_get kk_Mo_bend 10 rfl) ml_Mo_424 (by omega) (Nat.le_of_ble_eq_true rfl) (by assumption) (Cv.to (hid) ?_)
            rintro M1 ⟨b2, n2, w1, ⟨w2, w3⟩, -, -⟩
            subst w1
            refine wp_iload_n rfl (ck_get kk_Mo_bend 11 rfl) ?_
            refine wp_iconst (v := (-1)) (by decide) (ck_get kk_Mo_bend 12 rfl) ?_
            refine wp_icmp_ne (t := 31) (ck_get kk_Mo_bend 13 rfl) (by decide) (fun hc21 => ?_) (fun hc21 => ?_)
            · refine wp_iload_n rfl (ck_get kk_Mo_bend 19 rfl) ?_
              refine wp_aload_n rfl (ck_get kk_Mo_bend 20 rfl) ?_
              refine wp_getR (ck_get kk_Mo_bend 21 rfl) fl_Mo_94 (by assumption) (by assumption) ?_
              refine wp_iload_n rfl (ck_get kk_Mo_bend 22 rfl) ?_
              refine wp_ialdv (v := nI (nbL (mz (sWo (zS z)) t) + 1)) (ck_get kk_Mo_bend 23 rfl) (by assumption) (ixk_nI (k := t) (by omega) (by omega)) ((by rw [be_n]; exact w2)) ?_
              first | refine wp_icmp_geN (t := 55) (ck_get kk_Mo_bend 24 rfl) (by decide) (by omega) (by omega) (fun hc38 => ?_) (fun hc38 => ?_) | refine wp_icmp_ge (t := 55) (ck_get kk_Mo_bend 24 rfl) (by decide) (fun hc38 => ?_) (fun hc38 => ?_)
              · omega
              · refine wp_aload_n rfl (ck_get kk_Mo_bend 25 rfl) ?_
                refine wp_getR (ck_get kk_Mo_bend 26 rfl) fl_Mo_91 (by assumption) (by assumption) ?_
                refine wp_bipush (v := nI 25) (by decide) (ck_get kk_Mo_bend 27 rfl) ?_
                refine wp_iload_n rfl (ck_get kk_Mo_bend 28 rfl) ?_
                first | refine wp_imulN (ck_get kk_Mo_bend 29 rfl) ?_ | refine wp_imul (ck_get kk_Mo_bend 29 rfl) ?_
                refine wp_iload_n rfl (ck_get kk_Mo_bend 30 rfl) ?_
                first | refine wp_iaddN (ck_get kk_Mo_bend 31 rfl) ?_ | refine wp_iadd (ck_get kk_Mo_bend 31 rfl) ?_
                refine wp_ialdv (v := nI (nbI (mz (sWo (zS z)) t) k)) (ck_get kk_Mo_bend 32 rfl) (by assumption) (ixk_nI (k := 25 * t + k) (by omega) (by omega)) ((by rw [be_b]; exact w3 k (by omega))) ?_
                refine wp_goto (t := 56) (ck_get kk_Mo_bend 33 rfl) (by decide) ?_
                refine wp_ireturn (ck_get kk_Mo_bend 35 rfl) rfl rfl ⟨_, rfl, ?_⟩
                exact ⟨rfl, h.be, CSame.be⟩
            · exact absurd (by assumption) (nI_ne1 (by omega))
          · exact absurd (n1_le (by omega)) hc9
    · by_cases hm1 : b = -1
      · subst hm1
        refine ⟨nI (nbL (mz (sWo (zS z)) t) + 1), z, hO.le (by omega), fun M h => ?_, fun M h => ?_⟩
        · have hCR := h
          have hC' := h.le (Nat.le_succ c)
          obtain ⟨pf, pg, hL, hSC, hTC, hIC, hDC, hPC, hNC, hBC, hZC⟩ := h
          obtain ⟨t0, ⟨r00, hSh⟩, ⟨r01, hTr⟩, ⟨r02, hTg⟩, ⟨r03, hWa⟩, ⟨r04, hWp⟩, ⟨r06, t921, r921a, r921b, hS0, hS1⟩, ⟨r07, t922⟩, ⟨r08, t923⟩, ⟨r010, hPa⟩, ⟨r011, hJu⟩, ⟨r012, hRe⟩, ⟨r013, hCu⟩, ⟨r014, hDe⟩, ⟨r018, t959⟩, hPf⟩ := id hL
          have t1 : mT M 1 = (6, 0) := hSh.1
          have r10 : mR M 1 0 = some 2 := hSh.2.1
          have hW2 : WoAt (mT M) (mR M) 2 := hSh.2.2.1
          have t2 : mT M 2 = (9, 0) := hW2.1
          have r20 : mR M 2 0 = some 3 := hW2.2.1
          have t3 : mT M 3 = (24, 4) := hW2.2.2.1
          have t31 : mT M 31 = (8, 0) := hTr.1
          have t924 : mT M 924 = (3, 0) := hPa.1
          have t934 : mT M 934 = (2, 0) := hJu.1
          have t938 : mT M 938 = (5, 0) := hRe.1
          have t947 : mT M 947 = (0, 0) := hCu.1
          have t952 : mT M 952 = (1, 0) := hDe.1
          have rTe : mR M 3 t = some (4 + 6 * t) := (hW2.2.2.2 t ht).1
          have hTA : TeAt (mT M) (mR M) (4 + 6 * t) := (hW2.2.2.2 t ht).2
          have hTH : TeHas (mI M) (mJ M) (4 + 6 * t) ((sWo (zS z)).2 t) := hSC.1.2 t ht
          have tTe := hTA.1
          refine cw_entry 0 pf_Mc_bend rfl ?_
          refine wp_iload_n rfl (ck_get kk_Mc_bend 0 rfl) ?_
          refine wp_cS1i (ck_get kk_Mc_bend 1 rfl) ml_Mc_103 (by omega) (Nat.le_of_ble_eq_true rfl) (Ci.to (c_isTenant) ?_)
          rintro _ M1 ⟨rfl, eqm1⟩
          obtain rfl := eqm1.symm
          rw [hin]
          first | refine wp_if_neN (t := 9) (ck_get kk_Mc_bend 2 rfl) (by decide) (by omega) (fun hc4 => ?_) (fun hc4 => ?_) | refine wp_if_ne (t := 9) (ck_get kk_Mc_bend 2 rfl) (by decide) (fun hc4 => ?_) (fun hc4 => ?_)
          · refine wp_aload_n rfl (ck_get kk_Mc_bend 5 rfl) ?_
            refine wp_getR (ck_get kk_Mc_bend 6 rfl) fl_Mc_80 (by assumption) (by assumption) ?_
            refine wp_aload_n rfl (ck_get kk_Mc_bend 7 rfl) ?_
            refine wp_getR (ck_get kk_Mc_bend 8 rfl) fl_Mc_12 (by assumption) (by assumption) ?_
            refine wp_getR (ck_get kk_Mc_bend 9 rfl) fl_Mc_107 (by assumption) (by assumption) ?_
            refine wp_getR (ck_get kk_Mc_bend 10 rfl) fl_Mc_110 (by assumption) (by assumption) ?_
            refine wp_iload_n rfl (ck_get kk_Mc_bend 11 rfl) ?_
            refine wp_aald (ck_get kk_Mc_bend 12 rfl) (by assumption) (by first | assumption | exact ixk_nI (by omega) (by omega)) (by assumption) ?_
            refine wp_cV1v (ck_get kk_Mc_bend 13 rfl) ml_Mc_283 (by omega) (Nat.le_of_ble_eq_true rfl) (by assumption) (Cv.to (c_load (t := t) (w := sWo (zS z)) (by exact hW2) (by exact hSC.1) (by exact hCu) ht hB) ?_)
            rintro M1 ⟨j, b2, r, w1, w2, w3, w4⟩
            subst w1
            refine wp_iload_n rfl (ck_get kk_Mc_bend 14 rfl) ?_
            refine wp_iconst (v := (-1)) (by decide) (ck_get kk_Mc_bend 15 rfl) ?_
            refine wp_icmp_ne (t := 41) (ck_get kk_Mc_bend 16 rfl) (by decide) (fun hc30 => ?_) (fun hc30 => ?_)
            · exact absurd rfl hc30
            · refine wp_aload_n rfl (ck_get kk_Mc_bend 17 rfl) ?_
              refine wp_getR (ck_get kk_Mc_bend 18 rfl) fl_Mc_80 (by assumption) (by assumption) ?_
              refine wp_getIv (v := nI (nbL (mz (sWo (zS z)) t) + 1)) (ck_get kk_Mc_bend 19 rfl) fl_Mc_291 (by assumption) ((by rw [cu_r]; exact w4)) ?_
              refine wp_ireturn (ck_get kk_Mc_bend 20 rfl) rfl rfl ⟨_, rfl, ?_⟩
              exact ⟨rfl, hCR.cu, MSame.cu⟩
          · exact absurd hc4 (by decide)
        · skip
          obtain ⟨hM, hSM, hUM, hIM, hDM, hPM, hNM, hBM⟩ := id h
          have to0 := hM.1
          have rfbends := MoAt.r hM 20 rfl
          have tfbends := MoAt.t hM 20 rfl
          have rfbendMany := MoAt.r hM 21 rfl
          have tfbendMany := MoAt.t hM 21 rfl
          have hid := m_laysBends (g := g) (M := M) (f0 := mI M 1040) (b0 := mI M 1041) (n0 := mI M 1042) hM hSM.1 ht hB
          rw [be_id] at hid
          refine cw_entry 0 pf_Mo_bend rfl ?_
          refine wp_iload_n rfl (ck_get kk_Mo_bend 0 rfl) ?_
          refine wp_cS1i (ck_get kk_Mo_bend 1 rfl) ml_Mo_152 (by omega) (Nat.le_of_ble_eq_true rfl) (Ci.to (m_isTenant) ?_)
          rintro _ M1 ⟨rfl, eqm1⟩
          obtain rfl := eqm1.symm
          rw [hin]
          first | refine wp_if_eqN (t := 12) (ck_get kk_Mo_bend 2 rfl) (by decide) (by omega) (fun hc4 => ?_) (fun hc4 => ?_) | refine wp_if_eq (t := 12) (ck_get kk_Mo_bend 2 rfl) (by decide) (fun hc4 => ?_) (fun hc4 => ?_)
          · exact absurd hc4 (by decide)
          · refine wp_iload_n rfl (ck_get kk_Mo_bend 3 rfl) ?_
            refine wp_iconst (v := (-1)) (by decide) (ck_get kk_Mo_bend 4 rfl) ?_
            refine wp_icmp_ge (t := 14) (ck_get kk_Mo_bend 5 rfl) (by decide) (fun hc9 => ?_) (fun hc9 => ?_)
            · refine wp_aload_n rfl (ck_get kk_Mo_bend 8 rfl) ?_
              refine wp_iload_n rfl (ck_get kk_Mo_bend 9 rfl) ?_
              refine wp_cV1v (ck_get kk_Mo_bend 10 rfl) ml_Mo_424 (by omega) (Nat.le_of_ble_eq_true rfl) (by assumption) (Cv.to (hid) ?_)
              rintro M1 ⟨b2, n2, w1, ⟨w2, w3⟩, -, -⟩
              subst w1
              refine wp_iload_n rfl (ck_get kk_Mo_bend 11 rfl) ?_
              refine wp_iconst (v := (-1)) (by decide) (ck_get kk_Mo_bend 12 rfl) ?_
              refine wp_icmp_ne (t := 31) (ck_get kk_Mo_bend 13 rfl) (by decide) (fun hc21 => ?_) (fun hc21 => ?_)
              · exact absurd rfl hc21
              · refine wp_aload_n rfl (ck_get kk_Mo_bend 14 rfl) ?_
                refine wp_getR (ck_get kk_Mo_bend 15 rfl) fl_Mo_94 (by assumption) (by assumption) ?_
                refine wp_iload_n rfl (ck_get kk_Mo_bend 16 rfl) ?_
                refine wp_ialdv (v := nI (nbL (mz (sWo (zS z)) t) + 1)) (ck_get kk_Mo_bend 17 rfl) (by assumption) (ixk_nI (k := t) (by omega) (by omega)) ((by rw [be_n]; exact w2)) ?_
                refine wp_ireturn (ck_get kk_Mo_bend 18 rfl) rfl rfl ⟨_, rfl, ?_⟩
                exact ⟨rfl, h.be, CSame.be⟩
            · exact absurd (by decide) hc9
      · have m1 : (-1 : Int32).toInt = -1 := by decide
        have z0 : (0 : Int32).toInt = 0 := by decide
        have hm2 : ¬ b.toInt = -1 := fun q => hm1 (Int32.toInt_inj.mp (by omega))
        refine ⟨-1, z, hO.le (by omega), fun M h => ?_, fun M h => ?_⟩
        · have hCR := h
          have hC' := h.le (Nat.le_succ c)
          obtain ⟨pf, pg, hL, hSC, hTC, hIC, hDC, hPC, hNC, hBC, hZC⟩ := h
          obtain ⟨t0, ⟨r00, hSh⟩, ⟨r01, hTr⟩, ⟨r02, hTg⟩, ⟨r03, hWa⟩, ⟨r04, hWp⟩, ⟨r06, t921, r921a, r921b, hS0, hS1⟩, ⟨r07, t922⟩, ⟨r08, t923⟩, ⟨r010, hPa⟩, ⟨r011, hJu⟩, ⟨r012, hRe⟩, ⟨r013, hCu⟩, ⟨r014, hDe⟩, ⟨r018, t959⟩, hPf⟩ := id hL
          have t1 : mT M 1 = (6, 0) := hSh.1
          have r10 : mR M 1 0 = some 2 := hSh.2.1
          have hW2 : WoAt (mT M) (mR M) 2 := hSh.2.2.1
          have t2 : mT M 2 = (9, 0) := hW2.1
          have r20 : mR M 2 0 = some 3 := hW2.2.1
          have t3 : mT M 3 = (24, 4) := hW2.2.2.1
          have t31 : mT M 31 = (8, 0) := hTr.1
          have t924 : mT M 924 = (3, 0) := hPa.1
          have t934 : mT M 934 = (2, 0) := hJu.1
          have t938 : mT M 938 = (5, 0) := hRe.1
          have t947 : mT M 947 = (0, 0) := hCu.1
          have t952 : mT M 952 = (1, 0) := hDe.1
          have rTe : mR M 3 t = some (4 + 6 * t) := (hW2.2.2.2 t ht).1
          have hTA : TeAt (mT M) (mR M) (4 + 6 * t) := (hW2.2.2.2 t ht).2
          have hTH : TeHas (mI M) (mJ M) (4 + 6 * t) ((sWo (zS z)).2 t) := hSC.1.2 t ht
          have tTe := hTA.1
          refine cw_entry 0 pf_Mc_bend rfl ?_
          refine wp_iload_n rfl (ck_get kk_Mc_bend 0 rfl) ?_
          refine wp_cS1i (ck_get kk_Mc_bend 1 rfl) ml_Mc_103 (by omega) (Nat.le_of_ble_eq_true rfl) (Ci.to (c_isTenant) ?_)
          rintro _ M1 ⟨rfl, eqm1⟩
          obtain rfl := eqm1.symm
          rw [hin]
          first | refine wp_if_neN (t := 9) (ck_get kk_Mc_bend 2 rfl) (by decide) (by omega) (fun hc4 => ?_) (fun hc4 => ?_) | refine wp_if_ne (t := 9) (ck_get kk_Mc_bend 2 rfl) (by decide) (fun hc4 => ?_) (fun hc4 => ?_)
          · refine wp_aload_n rfl (ck_get kk_Mc_bend 5 rfl) ?_
            refine wp_getR (ck_get kk_Mc_bend 6 rfl) fl_Mc_80 (by assumption) (by assumption) ?_
            refine wp_aload_n rfl (ck_get kk_Mc_bend 7 rfl) ?_
            refine wp_getR (ck_get kk_Mc_bend 8 rfl) fl_Mc_12 (by assumption) (by assumption) ?_
            refine wp_getR (ck_get kk_Mc_bend 9 rfl) fl_Mc_107 (by assumption) (by assumption) ?_
            refine wp_getR (ck_get kk_Mc_bend 10 rfl) fl_Mc_110 (by assumption) (by assumption) ?_
            refine wp_iload_n rfl (ck_get kk_Mc_bend 11 rfl) ?_
            refine wp_aald (ck_get kk_Mc_bend 12 rfl) (by assumption) (by first | assumption | exact ixk_nI (by omega) (by omega)) (by assumption) ?_
            refine wp_cV1v (ck_get kk_Mc_bend 13 rfl) ml_Mc_283 (by omega) (Nat.le_of_ble_eq_true rfl) (by assumption) (Cv.to (c_load (t := t) (w := sWo (zS z)) (by exact hW2) (by exact hSC.1) (by exact hCu) ht hB) ?_)
            rintro M1 ⟨j, b2, r, w1, w2, w3, w4⟩
            subst w1
            refine wp_iload_n rfl (ck_get kk_Mc_bend 14 rfl) ?_
            refine wp_iconst (v := (-1)) (by decide) (ck_get kk_Mc_bend 15 rfl) ?_
            refine wp_icmp_ne (t := 41) (ck_get kk_Mc_bend 16 rfl) (by decide) (fun hc30 => ?_) (fun hc30 => ?_)
            · refine wp_iload_n rfl (ck_get kk_Mc_bend 21 rfl) ?_
              refine wp_if_lt (t := 68) (ck_get kk_Mc_bend 22 rfl) (by decide) (fun hc42 => ?_) (fun hc42 => ?_)
              · refine wp_iconst (v := (-1)) (by decide) (ck_get kk_Mc_bend 34 rfl) ?_
                refine wp_ireturn (ck_get kk_Mc_bend 35 rfl) rfl rfl ⟨_, rfl, ?_⟩
                exact ⟨rfl, hCR.cu, MSame.cu⟩
              · refine wp_iload_n rfl (ck_get kk_Mc_bend 23 rfl) ?_
                refine wp_aload_n rfl (ck_get kk_Mc_bend 24 rfl) ?_
                refine wp_getR (ck_get kk_Mc_bend 25 rfl) fl_Mc_80 (by assumption) (by assumption) ?_
                refine wp_getIv (v := nI (nbL (mz (sWo (zS z)) t) + 1)) (ck_get kk_Mc_bend 26 rfl) fl_Mc_291 (by assumption) ((by rw [cu_r]; exact w4)) ?_
                refine wp_icmp_ge (t := 68) (ck_get kk_Mc_bend 27 rfl) (by decide) (fun hc53 => ?_) (fun hc53 => ?_)
                · refine wp_iconst (v := (-1)) (by decide) (ck_get kk_Mc_bend 34 rfl) ?_
                  refine wp_ireturn (ck_get kk_Mc_bend 35 rfl) rfl rfl ⟨_, rfl, ?_⟩
                  exact ⟨rfl, hCR.cu, MSame.cu⟩
                · exfalso
                  have q1 := mt Int32.lt_iff_toInt_lt.mpr hc42
                  have q2 := mt Int32.le_iff_toInt_le.mpr hc53
                  rw [nI_toInt (by omega)] at q2
                  omega
            · exact absurd (by assumption) hm1
          · exact absurd hc4 (by decide)
        · skip
          obtain ⟨hM, hSM, hUM, hIM, hDM, hPM, hNM, hBM⟩ := id h
          have to0 := hM.1
          have rfbends := MoAt.r hM 20 rfl
          have tfbends := MoAt.t hM 20 rfl
          have rfbendMany := MoAt.r hM 21 rfl
          have tfbendMany := MoAt.t hM 21 rfl
          have hid := m_laysBends (g := g) (M := M) (f0 := mI M 1040) (b0 := mI M 1041) (n0 := mI M 1042) hM hSM.1 ht hB
          rw [be_id] at hid
          refine cw_entry 0 pf_Mo_bend rfl ?_
          refine wp_iload_n rfl (ck_get kk_Mo_bend 0 rfl) ?_
          refine wp_cS1i (ck_get kk_Mo_bend 1 rfl) ml_Mo_152 (by omega) (Nat.le_of_ble_eq_true rfl) (Ci.to (m_isTenant) ?_)
          rintro _ M1 ⟨rfl, eqm1⟩
          obtain rfl := eqm1.symm
          rw [hin]
          first | refine wp_if_eqN (t := 12) (ck_get kk_Mo_bend 2 rfl) (by decide) (by omega) (fun hc4 => ?_) (fun hc4 => ?_) | refine wp_if_eq (t := 12) (ck_get kk_Mo_bend 2 rfl) (by decide) (fun hc4 => ?_) (fun hc4 => ?_)
          · exact absurd hc4 (by decide)
          · refine wp_iload_n rfl (ck_get kk_Mo_bend 3 rfl) ?_
            refine wp_iconst (v := (-1)) (by decide) (ck_get kk_Mo_bend 4 rfl) ?_
            refine wp_icmp_ge (t := 14) (ck_get kk_Mo_bend 5 rfl) (by decide) (fun hc9 => ?_) (fun hc9 => ?_)
            · refine wp_aload_n rfl (ck_get kk_Mo_bend 8 rfl) ?_
              refine wp_iload_n rfl (ck_get kk_Mo_bend 9 rfl) ?_
              refine wp_cV1v (ck_get kk_Mo_bend 10 rfl) ml_Mo_424 (by omega) (Nat.le_of_ble_eq_true rfl) (by assumption) (Cv.to (hid) ?_)
              rintro M1 ⟨b2, n2, w1, ⟨w2, w3⟩, -, -⟩
              subst w1
              refine wp_iload_n rfl (ck_get kk_Mo_bend 11 rfl) ?_
              refine wp_iconst (v := (-1)) (by decide) (ck_get kk_Mo_bend 12 rfl) ?_
              refine wp_icmp_ne (t := 31) (ck_get kk_Mo_bend 13 rfl) (by decide) (fun hc21 => ?_) (fun hc21 => ?_)
              · refine wp_iload_n rfl (ck_get kk_Mo_bend 19 rfl) ?_
                refine wp_aload_n rfl (ck_get kk_Mo_bend 20 rfl) ?_
                refine wp_getR (ck_get kk_Mo_bend 21 rfl) fl_Mo_94 (by assumption) (by assumption) ?_
                refine wp_iload_n rfl (ck_get kk_Mo_bend 22 rfl) ?_
                refine wp_ialdv (v := nI (nbL (mz (sWo (zS z)) t) + 1)) (ck_get kk_Mo_bend 23 rfl) (by assumption) (ixk_nI (k := t) (by omega) (by omega)) ((by rw [be_n]; exact w2)) ?_
                refine wp_icmp_ge (t := 55) (ck_get kk_Mo_bend 24 rfl) (by decide) (fun hc38 => ?_) (fun hc38 => ?_)
                · refine wp_iconst (v := (-1)) (by decide) (ck_get kk_Mo_bend 34 rfl) ?_
                  refine wp_ireturn (ck_get kk_Mo_bend 35 rfl) rfl rfl ⟨_, rfl, ?_⟩
                  exact ⟨rfl, h.be, CSame.be⟩
                · exfalso
                  have q1 := Int32.le_iff_toInt_le.mp hc9
                  have q2 := mt Int32.le_iff_toInt_le.mpr hc38
                  rw [nI_toInt (by omega)] at q2
                  omega
              · exact absurd (by assumption) hm1
            · refine wp_iconst (v := (-1)) (by decide) (ck_get kk_Mo_bend 6 rfl) ?_
              refine wp_ireturn (ck_get kk_Mo_bend 7 rfl) rfl rfl ⟨_, rfl, ?_⟩
              exact ⟨rfl, h, CSame.refl _⟩
  · have hin' : inB a 4 = false := by simpa using hin
    refine ⟨-1, z, hO.le (by omega), fun M h => ?_, fun M h => ?_⟩
    · have hCR := h
      have hC' := h.le (Nat.le_succ c)
      obtain ⟨pf, pg, hL, hSC, hTC, hIC, hDC, hPC, hNC, hBC, hZC⟩ := h
      obtain ⟨t0, ⟨r00, hSh⟩, ⟨r01, hTr⟩, ⟨r02, hTg⟩, ⟨r03, hWa⟩, ⟨r04, hWp⟩, ⟨r06, t921, r921a, r921b, hS0, hS1⟩, ⟨r07, t922⟩, ⟨r08, t923⟩, ⟨r010, hPa⟩, ⟨r011, hJu⟩, ⟨r012, hRe⟩, ⟨r013, hCu⟩, ⟨r014, hDe⟩, ⟨r018, t959⟩, hPf⟩ := id hL
      have t1 : mT M 1 = (6, 0) := hSh.1
      have r10 : mR M 1 0 = some 2 := hSh.2.1
      have hW2 : WoAt (mT M) (mR M) 2 := hSh.2.2.1
      have t2 : mT M 2 = (9, 0) := hW2.1
      have r20 : mR M 2 0 = some 3 := hW2.2.1
      have t3 : mT M 3 = (24, 4) := hW2.2.2.1
      have t31 : mT M 31 = (8, 0) := hTr.1
      have t924 : mT M 924 = (3, 0) := hPa.1
      have t934 : mT M 934 = (2, 0) := hJu.1
      have t938 : mT M 938 = (5, 0) := hRe.1
      have t947 : mT M 947 = (0, 0) := hCu.1
      have t952 : mT M 952 = (1, 0) := hDe.1
      refine cw_entry 0 pf_Mc_bend rfl ?_
      refine wp_iload_n rfl (ck_get kk_Mc_bend 0 rfl) ?_
      refine wp_cS1i (ck_get kk_Mc_bend 1 rfl) ml_Mc_103 (by omega) (Nat.le_of_ble_eq_true rfl) (Ci.to (c_isTenant) ?_)
      rintro _ M1 ⟨rfl, eqm1⟩
      obtain rfl := eqm1.symm
      rw [hin']
      first | refine wp_if_neN (t := 9) (ck_get kk_Mc_bend 2 rfl) (by decide) (by omega) (fun hc4 => ?_) (fun hc4 => ?_) | refine wp_if_ne (t := 9) (ck_get kk_Mc_bend 2 rfl) (by decide) (fun hc4 => ?_) (fun hc4 => ?_)
      · exact absurd (by decide) hc4
      · refine wp_iconst (v := (-1)) (by decide) (ck_get kk_Mc_bend 3 rfl) ?_
        refine wp_ireturn (ck_get kk_Mc_bend 4 rfl) rfl rfl ⟨_, rfl, ?_⟩
        exact ⟨rfl, hC', MSame.refl _⟩
    · skip
      obtain ⟨hM, hSM, hUM, hIM, hDM, hPM, hNM, hBM⟩ := id h
      have to0 := hM.1
      refine cw_entry 0 pf_Mo_bend rfl ?_
      refine wp_iload_n rfl (ck_get kk_Mo_bend 0 rfl) ?_
      refine wp_cS1i (ck_get kk_Mo_bend 1 rfl) ml_Mo_152 (by omega) (Nat.le_of_ble_eq_true rfl) (Ci.to (m_isTenant) ?_)
      rintro _ M1 ⟨rfl, eqm1⟩
      obtain rfl := eqm1.symm
      rw [hin']
      first | refine wp_if_eqN (t := 12) (ck_get kk_Mo_bend 2 rfl) (by decide) (by omega) (fun hc4 => ?_) (fun hc4 => ?_) | refine wp_if_eq (t := 12) (ck_get kk_Mo_bend 2 rfl) (by decide) (fun hc4 => ?_) (fun hc4 => ?_)
      · refine wp_iconst (v := (-1)) (by decide) (ck_get kk_Mo_bend 6 rfl) ?_
        refine wp_ireturn (ck_get kk_Mo_bend 7 rfl) rfl rfl ⟨_, rfl, ?_⟩
        exact ⟨rfl, h, CSame.refl _⟩
      · exact absurd (by decide) hc4
end BNF
