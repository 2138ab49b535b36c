/-! ===== replay, odd: both ===== -/
section RBO
variable {g : Gl} {M : Mem} {ks : Nat → Int32} {n : Nat}
/-- the class's record of a tenant is loaded -/
theorem c_loadT {z : ST} {t c : Nat} {pf pg : Nat → Nat} (hL : LayC (mT M) (mR M) pf pg) (hS : ShC (mT M) (mR M) (mI M) (mJ M) 1 (zS z)) (ht : t < 4) (hn : (tRe ((sWo (zS z)).2 t)).length ≤ 32) : Cv g Y_Re_load 1 [.ref 938, .ref (4 + 6 * t)] M (fun M2 => ∃ G, M2 = rcM M G ∧ LdOK (kR ((sWo (zS z)).2 t)) (tRe ((sWo (zS z)).2 t)).length G) := by
  have hRe : ReAt (mT M) (mR M) 938 := hL.2.2.2.2.2.2.2.2.2.2.2.1.2
  have hW2 : WoAt (mT M) (mR M) 2 := hL.2.1.2.2.2.1
  have hTA : TeAt (mT M) (mR M) (4 + 6 * t) := (hW2.2.2.2 t ht).2
  have hTH : TeHas (mI M) (mJ M) (4 + 6 * t) ((sWo (zS z)).2 t) := hS.1.2 t ht
  obtain ⟨u0, -, -, -, -, u7, -, -, -, -, u5⟩ := hTA
  have h8 := hTH.2.2.2.2.2.2.2.1
  have hr : RowI (mI M (4 + 6 * t + 5)) 0 (tRe ((sWo (zS z)).2 t)) := hTH.2.2.2.2.2.2.2.2
  have hid := c_reLoad (g := g) (M := M) (a := 4 + 6 * t) (ks := kR ((sWo (zS z)).2 t)) (n := (tRe ((sWo (zS z)).2 t)).length) (G := fun a => mI M (938 + a)) hRe (by omega) u0 u7 u5 h8 (fun i hi => by
    have := hr i hi
    rw [Nat.zero_add] at this
    exact this) hn
  rw [rc_id] at hid
  exact hid
theorem b_replay {a b : Int32} : Both g Y_Mc_replay Y_Mo_replay [.int a, .int b] := by
  intro c z hc hO
  by_cases hin : inB a 4 = true
  · obtain ⟨t, ht, rfl⟩ := inB_t hin (by omega)
    by_cases hib : inB b 25 = true
    · obtain ⟨q, hq, rfl⟩ := inB_t hib (by omega)
      have hn : (tRe ((sWo (zS z)).2 t)).length ≤ 32 := (hO.1.1.2 t ht).2.2.1
      have hp : sPo (zS z) < 5 := hO.1.2.2.1
      refine ⟨nI (sF z t q), z, hO.le (by omega), fun M h => ?_, fun M h => ?_⟩
      · have hCR := h
        have hC' := h.le (Nat.le_succ c)
        obtain ⟨pf, pg, hL, hSC, hTC, hIC, hDC, hPC, hNC, hBC, hZC⟩ := h
        obtain ⟨t0, ⟨r00, hSh⟩, ⟨r01, hTr⟩, ⟨r02, hTg⟩, ⟨r03, hWa⟩, ⟨r04, hWp⟩, ⟨r06, t921, r921a, r921b, hS0, hS1⟩, ⟨r07, t922⟩, ⟨r08, t923⟩, ⟨r010, hPa⟩, ⟨r011, hJu⟩, ⟨r012, hRe⟩, ⟨r013, hCu⟩, ⟨r014, hDe⟩, ⟨r018, t959⟩, hPf⟩ := id hL
        have t1 : mT M 1 = (6, 0) := hSh.1
        have r10 : mR M 1 0 = some 2 := hSh.2.1
        have hW2 : WoAt (mT M) (mR M) 2 := hSh.2.2.1
        have t2 : mT M 2 = (9, 0) := hW2.1
        have r20 : mR M 2 0 = some 3 := hW2.2.1
        have t3 : mT M 3 = (24, 4) := hW2.2.2.1
        have t31 : mT M 31 = (8, 0) := hTr.1
        have t924 : mT M 924 = (3, 0) := hPa.1
        have t934 : mT M 934 = (2, 0) := hJu.1
        have t938 : mT M 938 = (5, 0) := hRe.1
        have t947 : mT M 947 = (0, 0) := hCu.1
        have t952 : mT M 952 = (1, 0) := hDe.1
        have rTe : mR M 3 t = some (4 + 6 * t) := (hW2.2.2.2 t ht).1
        have hTA : TeAt (mT M) (mR M) (4 + 6 * t) := (hW2.2.2.2 t ht).2
        have hTH : TeHas (mI M) (mJ M) (4 + 6 * t) ((sWo (zS z)).2 t) := hSC.1.2 t ht
        have tTe := hTA.1
        have v1 : ∀ G, mI (rcM M G) 1 1 = nI (sPo (zS z)) := fun G => by rw [rc_ot (by omega)]; exact hSC.2.1
        refine cw_entry 0 pf_Mc_replay rfl ?_
        refine wp_iload_n rfl (ck_get kk_Mc_replay 0 rfl) ?_
        refine wp_cS1i (ck_get kk_Mc_replay 1 rfl) ml_Mc_103 (by omega) (Nat.le_of_ble_eq_true rfl) (Ci.to (c_isTenant) ?_)
        rintro _ M1 ⟨rfl, eqm1⟩
        obtain rfl := eqm1.symm
        rw [hin]
        first | refine wp_if_eqN (t := 14) (ck_get kk_Mc_replay 2 rfl) (by decide) (by omega) (fun hc4 => ?_) (fun hc4 => ?_) | refine wp_if_eq (t := 14) (ck_get kk_Mc_replay 2 rfl) (by decide) (fun hc4 => ?_) (fun hc4 => ?_)
        · exact absurd hc4 (by decide)
        · refine wp_iload_n rfl (ck_get kk_Mc_replay 3 rfl) ?_
          refine wp_cS1i (ck_get kk_Mc_replay 4 rfl) ml_Mc_275 (by omega) (Nat.le_of_ble_eq_true rfl) (Ci.to (c_isSize) ?_)
          rintro _ M1 ⟨rfl, eqm1⟩
          obtain rfl := eqm1.symm
          rw [hib]
          first | refine wp_if_neN (t := 16) (ck_get kk_Mc_replay 5 rfl) (by decide) (by omega) (fun hc11 => ?_) (fun hc11 => ?_) | refine wp_if_ne (t := 16) (ck_get kk_Mc_replay 5 rfl) (by decide) (fun hc11 => ?_) (fun hc11 => ?_)
          · refine wp_aload_n rfl (ck_get kk_Mc_replay 8 rfl) ?_
            refine wp_getR (ck_get kk_Mc_replay 9 rfl) fl_Mc_73 (by assumption) (by assumption) ?_
            refine wp_aload_n rfl (ck_get kk_Mc_replay 10 rfl) ?_
            refine wp_getR (ck_get kk_Mc_replay 11 rfl) fl_Mc_12 (by assumption) (by assumption) ?_
            refine wp_getR (ck_get kk_Mc_replay 12 rfl) fl_Mc_107 (by assumption) (by assumption) ?_
            refine wp_getR (ck_get kk_Mc_replay 13 rfl) fl_Mc_110 (by assumption) (by assumption) ?_
            refine wp_iload_n rfl (ck_get kk_Mc_replay 14 rfl) ?_
            refine wp_aald (ck_get kk_Mc_replay 15 rfl) (by assumption) (by first | assumption | exact ixk_nI (by omega) (by omega)) (by assumption) ?_
            refine wp_cV1v (ck_get kk_Mc_replay 16 rfl) ml_Mc_334 (by omega) (Nat.le_of_ble_eq_true rfl) (by assumption) (Cv.to (c_loadT (c := c) hL hSC ht hn) ?_)
            rintro M1 ⟨G, w1, w2⟩
            subst w1
            refine wp_aload_n rfl (ck_get kk_Mc_replay 17 rfl) ?_
            refine wp_getR (ck_get kk_Mc_replay 18 rfl) fl_Mc_73 (by assumption) (by assumption) ?_
            refine wp_aload_n rfl (ck_get kk_Mc_replay 19 rfl) ?_
            refine wp_getR (ck_get kk_Mc_replay 20 rfl) fl_Mc_12 (by assumption) (by assumption) ?_
            refine wp_getIv (v := nI (sPo (zS z))) (ck_get kk_Mc_replay 21 rfl) fl_Mc_188 (by assumption) (v1 _) ?_
            refine wp_iload_n rfl (ck_get kk_Mc_replay 22 rfl) ?_
            refine wp_cV2i (ck_get kk_Mc_replay 23 rfl) ml_Mc_335 (by omega) (Nat.le_of_ble_eq_true rfl) (by assumption) (Ci.to (c_play (c := q) (by exact hRe) hn hp (by omega) w2) ?_)
            rintro x M1 ⟨G2, w3, w4, -, -, -⟩
            subst w3
            subst w4
            refine wp_ireturn (ck_get kk_Mc_replay 24 rfl) rfl rfl ⟨_, rfl, ?_⟩
            exact ⟨rfl, hCR.rc, MSame.rc⟩
          · exact absurd hc11 (by decide)
      · have hRc := RcM.of h ht
        obtain ⟨hM, hSM, hUM, hIM, hDM, hPM, hNM, hBM⟩ := id h
        have to0 := hM.1
        have rfmissesWith := MoAt.r hM 31 rfl
        have tfmissesWith := MoAt.t hM 31 rfl
        have hid := m_readsAll (g := g) (M := M) (G := fun a => mI M (1047 + a)) (H := mJ M 1050) hM ht hRc hn hp
        rw [rm_id] at hid
        refine cw_entry 0 pf_Mo_replay rfl ?_
        refine wp_iload_n rfl (ck_get kk_Mo_replay 0 rfl) ?_
        refine wp_cS1i (ck_get kk_Mo_replay 1 rfl) ml_Mo_152 (by omega) (Nat.le_of_ble_eq_true rfl) (Ci.to (m_isTenant) ?_)
        rintro _ M1 ⟨rfl, eqm1⟩
        obtain rfl := eqm1.symm
        rw [hin]
        first | refine wp_if_eqN (t := 14) (ck_get kk_Mo_replay 2 rfl) (by decide) (by omega) (fun hc4 => ?_) (fun hc4 => ?_) | refine wp_if_eq (t := 14) (ck_get kk_Mo_replay 2 rfl) (by decide) (fun hc4 => ?_) (fun hc4 => ?_)
        · exact absurd hc4 (by decide)
        · refine wp_iload_n rfl (ck_get kk_Mo_replay 3 rfl) ?_
          refine wp_cS1i (ck_get kk_Mo_replay 4 rfl) ml_Mo_404 (by omega) (Nat.le_of_ble_eq_true rfl) (Ci.to (m_isSize) ?_)
          rintro _ M1 ⟨rfl, eqm1⟩
          obtain rfl := eqm1.symm
          rw [hib]
          first | refine wp_if_neN (t := 16) (ck_get kk_Mo_replay 5 rfl) (by decide) (by omega) (fun hc11 => ?_) (fun hc11 => ?_) | refine wp_if_ne (t := 16) (ck_get kk_Mo_replay 5 rfl) (by decide) (fun hc11 => ?_) (fun hc11 => ?_)
          · refine wp_aload_n rfl (ck_get kk_Mo_replay 8 rfl) ?_
            refine wp_iload_n rfl (ck_get kk_Mo_replay 9 rfl) ?_
            refine wp_cV1v (ck_get kk_Mo_replay 10 rfl) ml_Mo_491 (by omega) (Nat.le_of_ble_eq_true rfl) (by assumption) (Cv.to (hid) ?_)
            rintro M1 ⟨G, H, w1, w2⟩
            subst w1
            refine wp_aload_n rfl (ck_get kk_Mo_replay 11 rfl) ?_
            refine wp_getR (ck_get kk_Mo_replay 12 rfl) fl_Mo_124 (by assumption) (by assumption) ?_
            refine wp_iload_n rfl (ck_get kk_Mo_replay 13 rfl) ?_
            refine wp_ialdv (v := nI (sF z t q)) (ck_get kk_Mo_replay 14 rfl) (by assumption) (ixk_nI (k := q) (by omega) (by omega)) ((by rw [rm_r5]; exact w2 q hq)) ?_
            refine wp_ireturn (ck_get kk_Mo_replay 15 rfl) rfl rfl ⟨_, rfl, ?_⟩
            exact ⟨rfl, h.rm, CSame.rm⟩
          · exact absurd hc11 (by decide)
    · have hib2 : inB b 25 = false := by simpa using hib
      refine ⟨-1, z, hO.le (by omega), fun M h => ?_, fun M h => ?_⟩
      · skip
        have hC' := h.le (Nat.le_succ c)
        obtain ⟨pf, pg, hL, hSC, hTC, hIC, hDC, hPC, hNC, hBC, hZC⟩ := h
        obtain ⟨t0, ⟨r00, hSh⟩, ⟨r01, hTr⟩, ⟨r02, hTg⟩, ⟨r03, hWa⟩, ⟨r04, hWp⟩, ⟨r06, t921, r921a, r921b, hS0, hS1⟩, ⟨r07, t922⟩, ⟨r08, t923⟩, ⟨r010, hPa⟩, ⟨r011, hJu⟩, ⟨r012, hRe⟩, ⟨r013, hCu⟩, ⟨r014, hDe⟩, ⟨r018, t959⟩, hPf⟩ := id hL
        have t1 : mT M 1 = (6, 0) := hSh.1
        have r10 : mR M 1 0 = some 2 := hSh.2.1
        have hW2 : WoAt (mT M) (mR M) 2 := hSh.2.2.1
        have t2 : mT M 2 = (9, 0) := hW2.1
        have r20 : mR M 2 0 = some 3 := hW2.2.1
        have t3 : mT M 3 = (24, 4) := hW2.2.2.1
        have t31 : mT M 31 = (8, 0) := hTr.1
        have t924 : mT M 924 = (3, 0) := hPa.1
        have t934 : mT M 934 = (2, 0) := hJu.1
        have t938 : mT M 938 = (5, 0) := hRe.1
        have t947 : mT M 947 = (0, 0) := hCu.1
        have t952 : mT M 952 = (1, 0) := hDe.1
        refine cw_entry 0 pf_Mc_replay rfl ?_
        refine wp_iload_n rfl (ck_get kk_Mc_replay 0 rfl) ?_
        refine wp_cS1i (ck_get kk_Mc_replay 1 rfl) ml_Mc_103 (by omega) (Nat.le_of_ble_eq_true rfl) (Ci.to (c_isTenant) ?_)
        rintro _ M1 ⟨rfl, eqm1⟩
        obtain rfl := eqm1.symm
        rw [hin]
        first | refine wp_if_eqN (t := 14) (ck_get kk_Mc_replay 2 rfl) (by decide) (by omega) (fun hc4 => ?_) (fun hc4 => ?_) | refine wp_if_eq (t := 14) (ck_get kk_Mc_replay 2 rfl) (by decide) (fun hc4 => ?_) (fun hc4 => ?_)
        · exact absurd hc4 (by decide)
        · refine wp_iload_n rfl (ck_get kk_Mc_replay 3 rfl) ?_
          refine wp_cS1i (ck_get kk_Mc_replay 4 rfl) ml_Mc_275 (by omega) (Nat.le_of_ble_eq_true rfl) (Ci.to (c_isSize) ?_)
          rintro _ M1 ⟨rfl, eqm1⟩
          obtain rfl := eqm1.symm
          rw [hib2]
          first | refine wp_if_neN (t := 16) (ck_get kk_Mc_replay 5 rfl) (by decide) (by omega) (fun hc11 => ?_) (fun hc11 => ?_) | refine wp_if_ne (t := 16) (ck_get kk_Mc_replay 5 rfl) (by decide) (fun hc11 => ?_) (fun hc11 => ?_)
          · exact absurd (by decide) hc11
          · refine wp_iconst (v := (-1)) (by decide) (ck_get kk_Mc_replay 6 rfl) ?_
            refine wp_ireturn (ck_get kk_Mc_replay 7 rfl) rfl rfl ⟨_, rfl, ?_⟩
            exact ⟨rfl, hC', MSame.refl _⟩
      · skip
        obtain ⟨hM, hSM, hUM, hIM, hDM, hPM, hNM, hBM⟩ := id h
        refine cw_entry 0 pf_Mo_replay rfl ?_
        refine wp_iload_n rfl (ck_get kk_Mo_replay 0 rfl) ?_
        refine wp_cS1i (ck_get kk_Mo_replay 1 rfl) ml_Mo_152 (by omega) (Nat.le_of_ble_eq_true rfl) (Ci.to (m_isTenant) ?_)
        rintro _ M1 ⟨rfl, eqm1⟩
        obtain rfl := eqm1.symm
        rw [hin]
        first | refine wp_if_eqN (t := 14) (ck_get kk_Mo_replay 2 rfl) (by decide) (by omega) (fun hc4 => ?_) (fun hc4 => ?_) | refine wp_if_eq (t := 14) (ck_get kk_Mo_replay 2 rfl) (by decide) (fun hc4 => ?_) (fun hc4 => ?_)
        · exact absurd hc4 (by decide)
        · refine wp_iload_n rfl (ck_get kk_Mo_replay 3 rfl) ?_
          refine wp_cS1i (ck_get kk_Mo_replay 4 rfl) ml_Mo_404 (by omega) (Nat.le_of_ble_eq_true rfl) (Ci.to (m_isSize) ?_)
          rintro _ M1 ⟨rfl, eqm1⟩
          obtain rfl := eqm1.symm
          rw [hib2]
          first | refine wp_if_neN (t := 16) (ck_get kk_Mo_replay 5 rfl) (by decide) (by omega) (fun hc11 => ?_) (fun hc11 => ?_) | refine wp_if_ne (t := 16) (ck_get kk_Mo_replay 5 rfl) (by decide) (fun hc11 => ?_) (fun hc11 => ?_)
          · exact absurd (by decide) hc11
          · refine wp_iconst (v := (-1)) (by decide) (ck_get kk_Mo_replay 6 rfl) ?_
            refine wp_ireturn (ck_get kk_Mo_replay 7 rfl) rfl rfl ⟨_, rfl, ?_⟩
            exact ⟨rfl, h, CSame.refl _⟩
  · have hin2 : inB a 4 = false := by simpa using hin
    refine ⟨-1, z, hO.le (by omega), fun M h => ?_, fun M h => ?_⟩
    · skip
      have hC' := h.le (Nat.le_succ c)
      obtain ⟨pf, pg, hL, hSC, hTC, hIC, hDC, hPC, hNC, hBC, hZC⟩ := h
      obtain ⟨t0, ⟨r00, hSh⟩, ⟨r01, hTr⟩, ⟨r02, hTg⟩, ⟨r03, hWa⟩, ⟨r04, hWp⟩, ⟨r06, t921, r921a, r921b, hS0, hS1⟩, ⟨r07, t922⟩, ⟨r08, t923⟩, ⟨r010, hPa⟩, ⟨r011, hJu⟩, ⟨r012, hRe⟩, ⟨r013, hCu⟩, ⟨r014, hDe⟩, ⟨r018, t959⟩, hPf⟩ := id hL
      have t1 : mT M 1 = (6, 0) := hSh.1
      have r10 : mR M 1 0 = some 2 := hSh.2.1
      have hW2 : WoAt (mT M) (mR M) 2 := hSh.2.2.1
      have t2 : mT M 2 = (9, 0) := hW2.1
      have r20 : mR M 2 0 = some 3 := hW2.2.1
      have t3 : mT M 3 = (24, 4) := hW2.2.2.1
      have t31 : mT M 31 = (8, 0) := hTr.1
      have t924 : mT M 924 = (3, 0) := hPa.1
      have t934 : mT M 934 = (2, 0) := hJu.1
      have t938 : mT M 938 = (5, 0) := hRe.1
      have t947 : mT M 947 = (0, 0) := hCu.1
      have t952 : mT M 952 = (1, 0) := hDe.1
      refine cw_entry 0 pf_Mc_replay rfl ?_
      refine wp_iload_n rfl (ck_get kk_Mc_replay 0 rfl) ?_
      refine wp_cS1i (ck_get kk_Mc_replay 1 rfl) ml_Mc_103 (by omega) (Nat.le_of_ble_eq_true rfl) (Ci.to (c_isTenant) ?_)
      rintro _ M1 ⟨rfl, eqm1⟩
      obtain rfl := eqm1.symm
      rw [hin2]
      first | refine wp_if_eqN (t := 14) (ck_get kk_Mc_replay 2 rfl) (by decide) (by omega) (fun hc4 => ?_) (fun hc4 => ?_) | refine wp_if_eq (t := 14) (ck_get kk_Mc_replay 2 rfl) (by decide) (fun hc4 => ?_) (fun hc4 => ?_)
      · refine wp_iconst (v := (-1)) (by decide) (ck_get kk_Mc_replay 6 rfl) ?_
        refine wp_ireturn (ck_get kk_Mc_replay 7 rfl) rfl rfl ⟨_, rfl, ?_⟩
        exact ⟨rfl, hC', MSame.refl _⟩
      · exact absurd (by decide) hc4
    · skip
      obtain ⟨hM, hSM, hUM, hIM, hDM, hPM, hNM, hBM⟩ := id h
      refine cw_entry 0 pf_Mo_replay rfl ?_
      refine wp_iload_n rfl (ck_get kk_Mo_replay 0 rfl) ?_
      refine wp_cS1i (ck_get kk_Mo_replay 1 rfl) ml_Mo_152 (by omega) (Nat.le_of_ble_eq_true rfl) (Ci.to (m_isTenant) ?_)
      rintro _ M1 ⟨rfl, eqm1⟩
      obtain rfl := eqm1.symm
      rw [hin2]
      first | refine wp_if_eqN (t := 14) (ck_get kk_Mo_replay 2 rfl) (by decide) (by omega) (fun hc4 => ?_) (fun hc4 => ?_) | refine wp_if_eq (t := 14) (ck_get kk_Mo_replay 2 rfl) (by decide) (fun hc4 => ?_) (fun hc4 => ?_)
      · refine wp_iconst (v := (-1)) (by decide) (ck_get kk_Mo_replay 6 rfl) ?_
        refine wp_ireturn (ck_get kk_Mo_replay 7 rfl) rfl rfl ⟨_, rfl, ?_⟩
        exact ⟨rfl, h, CSame.refl _⟩
      · exact absurd (by decide) hc4
/-- the first size with which one more misses more -/
def OdF (f : Nat → Nat) (m : Nat) : Prop := m ≤ 24 ∧ (∀ c, c < m → f (c + 1) ≤ f c) ∧ (m < 24 → f m < f (m + 1))
theorem OdF_ex (f : Nat → Nat) : ∀ d m, m + d = 24 → (∀ c, c < m → f (c + 1) ≤ f c) → ∃ q, OdF f q := by
  intro d
  induction d with
  | zero => intro m e h; exact ⟨m, by omega, h, fun q => by omega⟩
  | succ d ih =>
    intro m e h
    by_cases c : f m < f (m + 1)
    · exact ⟨m, by omega, h, fun _ => c⟩
    · refine ih (m + 1) (by omega) (fun q hq => ?_)
      by_cases e : q = m
      · subst e; omega
      · exact h q (by omega)
theorem OdF_un {f : Nat → Nat} {a b : Nat} (ha : OdF f a) (hb : OdF f b) : a = b := by
  rcases Nat.lt_trichotomy a b with q | q | q
  · have := ha.2.2 (by have := hb.1; omega)
    have := hb.2.1 a q
    omega
  · exact q
  · have := hb.2.2 (by have := ha.1; omega)
    have := ha.2.1 b q
    omega
def odR (m : Nat) : Int32 := if m < 24 then nI m else -1
theorem sF_all {z : ST} {t c : Nat} (hn : (tRe ((sWo (zS z)).2 t)).length ≤ 32) (hc : rk (kR ((sWo (zS z)).2 t)) (tRe ((sWo (zS z)).2 t)).length ≤ c) : sF z t c = rk (kR ((sWo (zS z)).2 t)) (tRe ((sWo (zS z)).2 t)).length := (simP_all hc hn _ (Nat.le_refl _)).2.1
theorem sF_le {z : ST} {t c : Nat} (hn : (tRe ((sWo (zS z)).2 t)).length ≤ 32) : sF z t c ≤ 32 := by
  have := (simP_ok (ks := kR ((sWo (zS z)).2 t)) (n := (tRe ((sWo (zS z)).2 t)).length) (pol := sPo (zS z)) (c := c) _ hn).2.2.1
  unfold sF
  omega
theorem b_odd {a : Int32} : Both g Y_Mc_odd Y_Mo_odd [.int a] := by
  intro c z hc hO
  by_cases hin : inB a 4 = true
  · obtain ⟨t, ht, rfl⟩ := inB_t hin (by omega)
    have hn : (tRe ((sWo (zS z)).2 t)).length ≤ 32 := (hO.1.1.2 t ht).2.2.1
    have hp : sPo (zS z) < 5 := hO.1.2.2.1
    have hle : ∀ c, sF z t c ≤ 32 := fun c => sF_le hn
    obtain ⟨m, hm⟩ := OdF_ex (sF z t) 24 0 (by omega) (fun q hq => absurd hq (Nat.not_lt_zero _))
    refine ⟨odR m, z, hO.le (by omega), fun M h => ?_, fun M h => ?_⟩
    · have hCR := h
      have hC' := h.le (Nat.le_succ c)
      obtain ⟨pf, pg, hL, hSC, hTC, hIC, hDC, hPC, hNC, hBC, hZC⟩ := h
      obtain ⟨t0, ⟨r00, hSh⟩, ⟨r01, hTr⟩, ⟨r02, hTg⟩, ⟨r03, hWa⟩, ⟨r04, hWp⟩, ⟨r06, t921, r921a, r921b, hS0, hS1⟩, ⟨r07, t922⟩, ⟨r08, t923⟩, ⟨r010, hPa⟩, ⟨r011, hJu⟩, ⟨r012, hRe⟩, ⟨r013, hCu⟩, ⟨r014, hDe⟩, ⟨r018, t959⟩, hPf⟩ := id hL
      have t1 : mT M 1 = (6, 0) := hSh.1
      have r10 : mR M 1 0 = some 2 := hSh.2.1
      have hW2 : WoAt (mT M) (mR M) 2 := hSh.2.2.1
      have t2 : mT M 2 = (9, 0) := hW2.1
      have r20 : mR M 2 0 = some 3 := hW2.2.1
      have t3 : mT M 3 = (24, 4) := hW2.2.2.1
      have t31 : mT M 31 = (8, 0) := hTr.1
      have t924 : mT M 924 = (3, 0) := hPa.1
      have t934 : mT M 934 = (2, 0) := hJu.1
      have t938 : mT M 938 = (5, 0) := hRe.1
      have t947 : mT M 947 = (0, 0) := hCu.1
      have t952 : mT M 952 = (1, 0) := hDe.1
      have rTe : mR M 3 t = some (4 + 6 * t) := (hW2.2.2.2 t ht).1
      have hTA : TeAt (mT M) (mR M) (4 + 6 * t) := (hW2.2.2.2 t ht).2
      have hTH : TeHas (mI M) (mJ M) (4 + 6 * t) ((sWo (zS z)).2 t) := hSC.1.2 t ht
      have tTe := hTA.1
      have v1 : ∀ G, mI (rcM M G) 1 1 = nI (sPo (zS z)) := fun G => by rw [rc_ot (by omega)]; exact hSC.2.1
      have hrl := rk_le (ks := kR ((sWo (zS z)).2 t)) (tRe ((sWo (zS z)).2 t)).length
      have hlp : ∀ e i G (x4 : Option Value), i + e = 24 → LdOK (kR ((sWo (zS z)).2 t)) (tRe ((sWo (zS z)).2 t)).length G → (∀ q, q < i → sF z t (q + 1) ≤ sF z t q) → Wp g Y_Mc_odd 300 46 [some (.ref 0), some (.int (nI t)), some (.int (nI (sF z t i))), some (.int (nI i)), x4] [] (rcM M G) (fun r M2 => ∃ y, r = some (.int y) ∧ y = odR m ∧ CR (c + 1) z M2 ∧ MSame M M2) := by
        intro e
        induction e with
        | zero =>
          intro i G x4 hi hG hq
          obtain rfl : i = 24 := by omega
          obtain rfl := OdF_un hm ⟨Nat.le_refl _, hq, fun w => absurd w (Nat.lt_irrefl _)⟩
          refine wp_iload_n rfl (ck_get kk_Mc_odd 24 rfl) ?_
          refine wp_bipush (v := nI 24) (by decide) (ck_get kk_Mc_odd 25 rfl) ?_
          first | refine wp_icmp_geN (t := 99) (ck_get kk_Mc_odd 26 rfl) (by decide) (by omega) (by omega) (fun hc49 => ?_) (fun hc49 => ?_) | refine wp_icmp_ge (t := 99) (ck_get kk_Mc_odd 26 rfl) (by decide) (fun hc49 => ?_) (fun hc49 => ?_)
          · refine wp_iconst (v := (-1)) (by decide) (ck_get kk_Mc_odd 51 rfl) ?_
            refine wp_ireturn (ck_get kk_Mc_odd 52 rfl) rfl rfl ⟨_, rfl, ?_⟩
            exact ⟨rfl, hCR.rc, MSame.rc⟩
          · omega
        | succ e ih =>
          intro i G x4 hi hG hq
          have vd : mI (rcM M G) 938 1 = nI (rk (kR ((sWo (zS z)).2 t)) (tRe ((sWo (zS z)).2 t)).length) := by rw [rc_r0]; exact hG.2.1
          have h1 := hle i
          have h2 := hle (i + 1)
          by_cases cd : rk (kR ((sWo (zS z)).2 t)) (tRe ((sWo (zS z)).2 t)).length ≤ i
          · have hm24 : 24 = m := OdF_un ⟨Nat.le_refl _, fun q hq2 => by
              rcases Nat.lt_or_ge q i with w | w
              · exact hq q w
              · rw [sF_all hn (by omega), sF_all hn (by omega)]; exact Nat.le_refl _, fun w => absurd w (Nat.lt_irrefl _)⟩ hm
            subst hm24
            refine wp_iload_n rfl (ck_get kk_Mc_odd 24 rfl) ?_
            refine wp_bipush (v := nI 24) (by decide) (ck_get kk_Mc_odd 25 rfl) ?_
            first | refine wp_icmp_geN (t := 99) (ck_get kk_Mc_odd 26 rfl) (by decide) (by omega) (by omega) (fun hc49 => ?_) (fun hc49 => ?_) | refine wp_icmp_ge (t := 99) (ck_get kk_Mc_odd 26 rfl) (by decide) (fun hc49 => ?_) (fun hc49 => ?_)
            · omega
            · refine wp_iload_n rfl (ck_get kk_Mc_odd 27 rfl) ?_
              refine wp_aload_n rfl (ck_get kk_Mc_odd 28 rfl) ?_
              refine wp_getR (ck_get kk_Mc_odd 29 rfl) fl_Mc_73 (by assumption) (by assumption) ?_
              refine wp_getIv (v := nI (rk (kR ((sWo (zS z)).2 t)) (tRe ((sWo (zS z)).2 t)).length)) (ck_get kk_Mc_odd 30 rfl) fl_Mc_338 (by assumption) (vd) ?_
              first | refine wp_icmp_geN (t := 99) (ck_get kk_Mc_odd 31 rfl) (by decide) (by omega) (by omega) (fun hc60 => ?_) (fun hc60 => ?_) | refine wp_icmp_ge (t := 99) (ck_get kk_Mc_odd 31 rfl) (by decide) (fun hc60 => ?_) (fun hc60 => ?_)
              · refine wp_iconst (v := (-1)) (by decide) (ck_get kk_Mc_odd 51 rfl) ?_
                refine wp_ireturn (ck_get kk_Mc_odd 52 rfl) rfl rfl ⟨_, rfl, ?_⟩
                exact ⟨rfl, hCR.rc, MSame.rc⟩
              · omega
          · skip
            refine wp_iload_n rfl (ck_get kk_Mc_odd 24 rfl) ?_
            refine wp_bipush (v := nI 24) (by decide) (ck_get kk_Mc_odd 25 rfl) ?_
            first | refine wp_icmp_geN (t := 99) (ck_get kk_Mc_odd 26 rfl) (by decide) (by omega) (by omega) (fun hc49 => ?_) (fun hc49 => ?_) | refine wp_icmp_ge (t := 99) (ck_get kk_Mc_odd 26 rfl) (by decide) (fun hc49 => ?_) (fun hc49 => ?_)
            · omega
            · refine wp_iload_n rfl (ck_get kk_Mc_odd 27 rfl) ?_
              refine wp_aload_n rfl (ck_get kk_Mc_odd 28 rfl) ?_
              refine wp_getR (ck_get kk_Mc_odd 29 rfl) fl_Mc_73 (by assumption) (by assumption) ?_
              refine wp_getIv (v := nI (rk (kR ((sWo (zS z)).2 t)) (tRe ((sWo (zS z)).2 t)).length)) (ck_get kk_Mc_odd 30 rfl) fl_Mc_338 (by assumption) (vd) ?_
              first | refine wp_icmp_geN (t := 99) (ck_get kk_Mc_odd 31 rfl) (by decide) (by omega) (by omega) (fun hc60 => ?_) (fun hc60 => ?_) | refine wp_icmp_ge (t := 99) (ck_get kk_Mc_odd 31 rfl) (by decide) (fun hc60 => ?_) (fun hc60 => ?_)
              · omega
              · refine wp_aload_n rfl (ck_get kk_Mc_odd 32 rfl) ?_
                refine wp_getR (ck_get kk_Mc_odd 33 rfl) fl_Mc_73 (by assumption) (by assumption) ?_
                refine wp_aload_n rfl (ck_get kk_Mc_odd 34 rfl) ?_
                refine wp_getR (ck_get kk_Mc_odd 35 rfl) fl_Mc_12 (by assumption) (by assumption) ?_
                refine wp_getIv (v := nI (sPo (zS z))) (ck_get kk_Mc_odd 36 rfl) fl_Mc_188 (by assumption) (v1 _) ?_
                refine wp_iload_n rfl (ck_get kk_Mc_odd 37 rfl) ?_
                refine wp_iconst (v := nI 1) (by decide) (ck_get kk_Mc_odd 38 rfl) ?_
                first | refine wp_iaddN (ck_get kk_Mc_odd 39 rfl) ?_ | refine wp_iadd (ck_get kk_Mc_odd 39 rfl) ?_
                refine wp_cV2i (ck_get kk_Mc_odd 40 rfl) ml_Mc_335 (by omega) (Nat.le_of_ble_eq_true rfl) (by assumption) (Ci.to (c_play (c := i + 1) (by exact hRe) hn hp (by omega) hG) ?_)
                rintro x M1 ⟨G2, w3, w4, w5, -, -⟩
                have w3 : x = nI (sF z t (i + 1)) := w3
                subst w3
                subst w4
                refine wp_istore (ck_get kk_Mc_odd 41 rfl) (by decide) rfl ?_
                refine wp_iload rfl (ck_get kk_Mc_odd 42 rfl) ?_
                refine wp_iload_n rfl (ck_get kk_Mc_odd 43 rfl) ?_
                first | refine wp_icmp_leN (t := 90) (ck_get kk_Mc_odd 44 rfl) (by decide) (by omega) (by omega) (fun hc85 => ?_) (fun hc85 => ?_) | refine wp_icmp_le (t := 90) (ck_get kk_Mc_odd 44 rfl) (by decide) (fun hc85 => ?_) (fun hc85 => ?_)
                · refine wp_iload rfl (ck_get kk_Mc_odd 47 rfl) ?_
                  refine wp_istore_n (ck_get kk_Mc_odd 48 rfl) (by decide) rfl ?_
                  first | refine wp_iincN (ck_get kk_Mc_odd 49 rfl) rfl (by decide) rfl ?_ | refine wp_iinc (ck_get kk_Mc_odd 49 rfl) rfl (by decide) rfl ?_
                  refine wp_goto (t := 46) (ck_get kk_Mc_odd 50 rfl) (by decide) ?_
                  exact ih (i + 1) G2 _ (by omega) w5 (fun q hq2 => by
                    by_cases w : q = i
                    · subst w; omega
                    · exact hq q (by omega))
                · refine wp_iload_n rfl (ck_get kk_Mc_odd 45 rfl) ?_
                  refine wp_ireturn (ck_get kk_Mc_odd 46 rfl) rfl rfl ⟨_, rfl, ?_⟩
                  have hmi : i = m := OdF_un ⟨by omega, hq, fun _ => by omega⟩ hm
                  subst hmi
                  exact ⟨(if_pos (by omega)).symm, hCR.rc, MSame.rc⟩
      refine cw_entry 3 pf_Mc_odd rfl ?_
      refine wp_iload_n rfl (ck_get kk_Mc_odd 0 rfl) ?_
      refine wp_cS1i (ck_get kk_Mc_odd 1 rfl) ml_Mc_103 (by omega) (Nat.le_of_ble_eq_true rfl) (Ci.to (c_isTenant) ?_)
      rintro _ M1 ⟨rfl, eqm1⟩
      obtain rfl := eqm1.symm
      rw [hin]
      first | refine wp_if_neN (t := 9) (ck_get kk_Mc_odd 2 rfl) (by decide) (by omega) (fun hc4 => ?_) (fun hc4 => ?_) | refine wp_if_ne (t := 9) (ck_get kk_Mc_odd 2 rfl) (by decide) (fun hc4 => ?_) (fun hc4 => ?_)
      · refine wp_aload_n rfl (ck_get kk_Mc_odd 5 rfl) ?_
        refine wp_getR (ck_get kk_Mc_odd 6 rfl) fl_Mc_73 (by assumption) (by assumption) ?_
        refine wp_aload_n rfl (ck_get kk_Mc_odd 7 rfl) ?_
        refine wp_getR (ck_get kk_Mc_odd 8 rfl) fl_Mc_12 (by assumption) (by assumption) ?_
        refine wp_getR (ck_get kk_Mc_odd 9 rfl) fl_Mc_107 (by assumption) (by assumption) ?_
        refine wp_getR (ck_get kk_Mc_odd 10 rfl) fl_Mc_110 (by assumption) (by assumption) ?_
        refine wp_iload_n rfl (ck_get kk_Mc_odd 11 rfl) ?_
        refine wp_aald (ck_get kk_Mc_odd 12 rfl) (by assumption) (by first | assumption | exact ixk_nI (by omega) (by omega)) (by assumption) ?_
        refine wp_cV1v (ck_get kk_Mc_odd 13 rfl) ml_Mc_334 (by omega) (Nat.le_of_ble_eq_true rfl) (by assumption) (Cv.to (c_loadT (c := c) hL hSC ht hn) ?_)
        rintro M1 ⟨G, w1, w2⟩
        subst w1
        refine wp_aload_n rfl (ck_get kk_Mc_odd 14 rfl) ?_
        refine wp_getR (ck_get kk_Mc_odd 15 rfl) fl_Mc_73 (by assumption) (by assumption) ?_
        refine wp_aload_n rfl (ck_get kk_Mc_odd 16 rfl) ?_
        refine wp_getR (ck_get kk_Mc_odd 17 rfl) fl_Mc_12 (by assumption) (by assumption) ?_
        refine wp_getIv (v := nI (sPo (zS z))) (ck_get kk_Mc_odd 18 rfl) fl_Mc_188 (by assumption) (v1 _) ?_
        refine wp_iconst (v := nI 0) (by decide) (ck_get kk_Mc_odd 19 rfl) ?_
        refine wp_cV2i (ck_get kk_Mc_odd 20 rfl) ml_Mc_335 (by omega) (Nat.le_of_ble_eq_true rfl) (by assumption) (Ci.to (c_play (c := 0) (by exact hRe) hn hp (by omega) w2) ?_)
        rintro x M1 ⟨G2, w3, w4, w5, -, -⟩
        have w3 : x = nI (sF z t 0) := w3
        subst w3
        subst w4
        refine wp_istore_n (ck_get kk_Mc_odd 21 rfl) (by decide) rfl ?_
        refine wp_iconst (v := nI 0) (by decide) (ck_get kk_Mc_odd 22 rfl) ?_
        refine wp_istore_n (ck_get kk_Mc_odd 23 rfl) (by decide) rfl ?_
        exact hlp 24 0 G2 none (by omega) w5 (fun q hq => absurd hq (Nat.not_lt_zero _))
      · exact absurd hc4 (by decide)
    · have hRc := RcM.of h ht
      have hMR := h
      obtain ⟨hM, hSM, hUM, hIM, hDM, hPM, hNM, hBM⟩ := id h
      have to0 := hM.1
      have rfmissesWith := MoAt.r hM 31 rfl
      have tfmissesWith := MoAt.t hM 31 rfl
      have hid := m_readsAll (g := g) (M := M) (G := fun a => mI M (1047 + a)) (H := mJ M 1050) hM ht hRc hn hp
      rw [rm_id] at hid
      refine cw_entry 1 pf_Mo_odd rfl ?_
      refine wp_iload_n rfl (ck_get kk_Mo_odd 0 rfl) ?_
      refine wp_cS1i (ck_get kk_Mo_odd 1 rfl) ml_Mo_152 (by omega) (Nat.le_of_ble_eq_true rfl) (Ci.to (m_isTenant) ?_)
      rintro _ M1 ⟨rfl, eqm1⟩
      obtain rfl := eqm1.symm
      rw [hin]
      first | refine wp_if_neN (t := 9) (ck_get kk_Mo_odd 2 rfl) (by decide) (by omega) (fun hc4 => ?_) (fun hc4 => ?_) | refine wp_if_ne (t := 9) (ck_get kk_Mo_odd 2 rfl) (by decide) (fun hc4 => ?_) (fun hc4 => ?_)
      · refine wp_aload_n rfl (ck_get kk_Mo_odd 5 rfl) ?_
        refine wp_iload_n rfl (ck_get kk_Mo_odd 6 rfl) ?_
        refine wp_cV1v (ck_get kk_Mo_odd 7 rfl) ml_Mo_491 (by omega) (Nat.le_of_ble_eq_true rfl) (by assumption) (Cv.to (hid) ?_)
        rintro M1 ⟨G, H, w1, w2⟩
        subst w1
        refine wp_iconst (v := nI 0) (by decide) (ck_get kk_Mo_odd 8 rfl) ?_
        refine wp_istore_n (ck_get kk_Mo_odd 9 rfl) (by decide) rfl ?_
        have w2 : ∀ c, c < 25 → mI (rmM M G H) 1052 c = nI (sF z t c) := fun c hc => by rw [rm_r5]; exact w2 c hc
        have hlp : ∀ e i, i + e = 24 → (∀ q, q < i → sF z t (q + 1) ≤ sF z t q) → Wp g Y_Mo_odd 300 16 [some (.ref 1020), some (.int (nI t)), some (.int (nI i))] [] (rmM M G H) (fun r M2 => ∃ y, r = some (.int y) ∧ y = odR m ∧ MR z M2 ∧ CSame M M2) := by
          intro e
          induction e with
          | zero =>
            intro i hi hq
            obtain rfl : i = 24 := by omega
            obtain rfl := OdF_un hm ⟨Nat.le_refl _, hq, fun w => absurd w (Nat.lt_irrefl _)⟩
            refine wp_iload_n rfl (ck_get kk_Mo_odd 10 rfl) ?_
            refine wp_bipush (v := nI 24) (by decide) (ck_get kk_Mo_odd 11 rfl) ?_
            first | refine wp_icmp_geN (t := 47) (ck_get kk_Mo_odd 12 rfl) (by decide) (by omega) (by omega) (fun hc19 => ?_) (fun hc19 => ?_) | refine wp_icmp_ge (t := 47) (ck_get kk_Mo_odd 12 rfl) (by decide) (fun hc19 => ?_) (fun hc19 => ?_)
            · refine wp_iconst (v := (-1)) (by decide) (ck_get kk_Mo_odd 28 rfl) ?_
              refine wp_ireturn (ck_get kk_Mo_odd 29 rfl) rfl rfl ⟨_, rfl, ?_⟩
              exact ⟨rfl, hMR.rm, CSame.rm⟩
            · omega
          | succ e ih =>
            intro i hi hq
            have h1 := hle i
            have h2 := hle (i + 1)
            refine wp_iload_n rfl (ck_get kk_Mo_odd 10 rfl) ?_
            refine wp_bipush (v := nI 24) (by decide) (ck_get kk_Mo_odd 11 rfl) ?_
            first | refine wp_icmp_geN (t := 47) (ck_get kk_Mo_odd 12 rfl) (by decide) (by omega) (by omega) (fun hc19 => ?_) (fun hc19 => ?_) | refine wp_icmp_ge (t := 47) (ck_get kk_Mo_odd 12 rfl) (by decide) (fun hc19 => ?_) (fun hc19 => ?_)
            · omega
            · refine wp_aload_n rfl (ck_get kk_Mo_odd 13 rfl) ?_
              refine wp_getR (ck_get kk_Mo_odd 14 rfl) fl_Mo_124 (by assumption) (by assumption) ?_
              refine wp_iload_n rfl (ck_get kk_Mo_odd 15 rfl) ?_
              refine wp_iconst (v := nI 1) (by decide) (ck_get kk_Mo_odd 16 rfl) ?_
              first | refine wp_iaddN (ck_get kk_Mo_odd 17 rfl) ?_ | refine wp_iadd (ck_get kk_Mo_odd 17 rfl) ?_
              refine wp_ialdv (v := nI (sF z t (i + 1))) (ck_get kk_Mo_odd 18 rfl) (by assumption) (ixk_nI (k := i + 1) (by omega) (by omega)) (w2 (i + 1) (by omega)) ?_
              refine wp_aload_n rfl (ck_get kk_Mo_odd 19 rfl) ?_
              refine wp_getR (ck_get kk_Mo_odd 20 rfl) fl_Mo_124 (by assumption) (by assumption) ?_
              refine wp_iload_n rfl (ck_get kk_Mo_odd 21 rfl) ?_
              refine wp_ialdv (v := nI (sF z t i)) (ck_get kk_Mo_odd 22 rfl) (by assumption) (ixk_nI (k := i) (by omega) (by omega)) (w2 i (by omega)) ?_
              first | refine wp_icmp_leN (t := 41) (ck_get kk_Mo_odd 23 rfl) (by decide) (by omega) (by omega) (fun hc36 => ?_) (fun hc36 => ?_) | refine wp_icmp_le (t := 41) (ck_get kk_Mo_odd 23 rfl) (by decide) (fun hc36 => ?_) (fun hc36 => ?_)
              · first | refine wp_iincN (ck_get kk_Mo_odd 26 rfl) rfl (by decide) rfl ?_ | refine wp_iinc (ck_get kk_Mo_odd 26 rfl) rfl (by decide) rfl ?_
                refine wp_goto (t := 16) (ck_get kk_Mo_odd 27 rfl) (by decide) ?_
                exact ih (i + 1) (by omega) (fun q hq2 => by
                  by_cases w : q = i
                  · subst w; omega
                  · exact hq q (by omega))
              · refine wp_iload_n rfl (ck_get kk_Mo_odd 24 rfl) ?_
                refine wp_ireturn (ck_get kk_Mo_odd 25 rfl) rfl rfl ⟨_, rfl, ?_⟩
                have hmi : i = m := OdF_un ⟨by omega, hq, fun _ => by omega⟩ hm
                subst hmi
                exact ⟨(if_pos (by omega)).symm, hMR.rm, CSame.rm⟩
        exact hlp 24 0 (by omega) (fun q hq => absurd hq (Nat.not_lt_zero _))
      · exact absurd hc4 (by decide)
  · have hin2 : inB a 4 = false := by simpa using hin
    refine ⟨-1, z, hO.le (by omega), fun M h => ?_, fun M h => ?_⟩
    · skip
      have hC' := h.le (Nat.le_succ c)
      obtain ⟨pf, pg, hL, hSC, hTC, hIC, hDC, hPC, hNC, hBC, hZC⟩ := h
      obtain ⟨t0, ⟨r00, hSh⟩, ⟨r01, hTr⟩, ⟨r02, hTg⟩, ⟨r03, hWa⟩, ⟨r04, hWp⟩, ⟨r06, t921, r921a, r921b, hS0, hS1⟩, ⟨r07, t922⟩, ⟨r08, t923⟩, ⟨r010, hPa⟩, ⟨r011, hJu⟩, ⟨r012, hRe⟩, ⟨r013, hCu⟩, ⟨r014, hDe⟩, ⟨r018, t959⟩, hPf⟩ := id hL
      have t1 : mT M 1 = (6, 0) := hSh.1
      have r10 : mR M 1 0 = some 2 := hSh.2.1
      have hW2 : WoAt (mT M) (mR M) 2 := hSh.2.2.1
      have t2 : mT M 2 = (9, 0) := hW2.1
      have r20 : mR M 2 0 = some 3 := hW2.2.1
      have t3 : mT M 3 = (24, 4) := hW2.2.2.1
      have t31 : mT M 31 = (8, 0) := hTr.1
      have t924 : mT M 924 = (3, 0) := hPa.1
      have t934 : mT M 934 = (2, 0) := hJu.1
      have t938 : mT M 938 = (5, 0) := hRe.1
      have t947 : mT M 947 = (0, 0) := hCu.1
      have t952 : mT M 952 = (1, 0) := hDe.1
      refine cw_entry 3 pf_Mc_odd rfl ?_
      refine wp_iload_n rfl (ck_get kk_Mc_odd 0 rfl) ?_
      refine wp_cS1i (ck_get kk_Mc_odd 1 rfl) ml_Mc_103 (by omega) (Nat.le_of_ble_eq_true rfl) (Ci.to (c_isTenant) ?_)
      rintro _ M1 ⟨rfl, eqm1⟩
      obtain rfl := eqm1.symm
      rw [hin2]
      first | refine wp_if_neN (t := 9) (ck_get kk_Mc_odd 2 rfl) (by decide) (by omega) (fun hc4 => ?_) (fun hc4 => ?_) | refine wp_if_ne (t := 9) (ck_get kk_Mc_odd 2 rfl) (by decide) (fun hc4 => ?_) (fun hc4 => ?_)
      · exact absurd (by decide) hc4
      · refine wp_iconst (v := (-1)) (by decide) (ck_get kk_Mc_odd 3 rfl) ?_
        refine wp_ireturn (ck_get kk_Mc_odd 4 rfl) rfl rfl ⟨_, rfl, ?_⟩
        exact ⟨rfl, hC', MSame.refl _⟩
    · skip
      obtain ⟨hM, hSM, hUM, hIM, hDM, hPM, hNM, hBM⟩ := id h
      refine cw_entry 1 pf_Mo_odd rfl ?_
      refine wp_iload_n rfl (ck_get kk_Mo_odd 0 rfl) ?_
      refine wp_cS1i (ck_get kk_Mo_odd 1 rfl) ml_Mo_152 (by omega) (Nat.le_of_ble_eq_true rfl) (Ci.to (m_isTenant) ?_)
      rintro _ M1 ⟨rfl, eqm1⟩
      obtain rfl := eqm1.symm
      rw [hin2]
      first | refine wp_if_neN (t := 9) (ck_get kk_Mo_odd 2 rfl) (by decide) (by omega) (fun hc4 => ?_) (fun hc4 => ?_) | refine wp_if_ne (t := 9) (ck_get kk_Mo_odd 2 rfl) (by decide) (fun hc4 => ?_) (fun hc4 => ?_)
      · exact absurd (by decide) hc4
      · refine wp_iconst (v := (-1)) (by decide) (ck_get kk_Mo_odd 3 rfl) ?_
        refine wp_ireturn (ck_get kk_Mo_odd 4 rfl) rfl rfl ⟨_, rfl, ?_⟩
        exact ⟨rfl, h, CSame.refl _⟩
end RBO
