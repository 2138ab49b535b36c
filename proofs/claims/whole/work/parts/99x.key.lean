/-! ===== key, compare, force ===== -/
section KEY
variable {g : Gl} {M : Mem}
/-- what is told of a read -/
theorem c_weighV {c t k : Nat} {z : ST} {q : Int32} (h : CR c z M) (hO : ZOK c z) (ht : t < 4) (hq : LqOK (sLn (zS z)) q) :
    ∃ pv : Option Nat, Ca g Y_Sh_lawOf 0 [.ref 1, .int q] M (fun x M2 => x = pv ∧ M2 = M) ∧ Cv g Y_Ju_weigh 2 [.ref 934, .ref 1, va_rf pv, .ref 2, .int (nI t), .int (nI k)] M (fun M2 => ∃ I2 J2, M2 = mk2 M I2 J2 ∧ I2 934 0 = nI (costA (resQ (zS z) q) (sMd (zS z)) (sWo (zS z)) t k) ∧ I2 934 1 = bI (barA (resQ (zS z) q) (sMd (zS z)) (sWo (zS z)) t k) ∧ ∀ x, x < 934 ∨ 938 ≤ x → I2 x = mI M x ∧ J2 x = mJ M x) := by
  have hC' := h.le (Nat.le_succ c)
  obtain ⟨pf, pg, hL, hSC, hTC, hIC, hDC, hPC, hNC, hBC, hZC⟩ := h
  obtain ⟨t0, ⟨r00, hSh⟩, ⟨r01, hTr⟩, ⟨r02, hTg⟩, ⟨r03, hWa⟩, ⟨r04, hWp⟩, ⟨r06, t921, r921a, r921b, hS0, hS1⟩, ⟨r07, t922⟩, ⟨r08, t923⟩, ⟨r010, hPa⟩, ⟨r011, hJu⟩, ⟨r012, hRe⟩, ⟨r013, hCu⟩, ⟨r014, hDe⟩, ⟨r018, t959⟩, hPf⟩ := id hL
  have t1 : mT M 1 = (6, 0) := hSh.1
  have r10 : mR M 1 0 = some 2 := hSh.2.1
  have hW2 : WoAt (mT M) (mR M) 2 := hSh.2.2.1
  have t2 : mT M 2 = (9, 0) := hW2.1
  have r20 : mR M 2 0 = some 3 := hW2.2.1
  have t3 : mT M 3 = (24, 4) := hW2.2.2.1
  have t31 : mT M 31 = (8, 0) := hTr.1
  have t924 : mT M 924 = (3, 0) := hPa.1
  have t934 : mT M 934 = (2, 0) := hJu.1
  have t938 : mT M 938 = (5, 0) := hRe.1
  have t947 : mT M 947 = (0, 0) := hCu.1
  have t952 : mT M 952 = (1, 0) := hDe.1
  have hR := hSC.cl hO.1 hq
  obtain ⟨pv, h1, h2⟩ := c_weighT (g := g) (t := t) (k := k) (md := sMd (zS z)) hL hW2 (by omega) hSC.1 hO.1.1 ht hSC.2.2.2.1 hR
  refine ⟨pv, h1, h2.to ?_⟩
  rintro M2 ⟨V, cs, br, hV, hres, hcs, I2, J2, rfl, e0, e1, hfr⟩
  have hRO := resQ_ok (zS z) q
  have e : resQ (zS z) q V = resQ (zS z) q (V0 (sWo (zS z)) (sMd (zS z)) t k) := hRO.2 _ _ (hV.eq V0_ok)
  have e2 := (resV hRO (sWo (zS z)) t k (md := sMd (zS z))).1
  rw [e, e2] at hres
  exact ⟨I2, J2, rfl, by rw [e0, ← (Prod.mk.inj hres).1], by rw [e1, ← (Prod.mk.inj hres).2], hfr⟩
theorem CR.ju {c : Nat} {z : ST} {I2 : Nat → Nat → Int32} {J2 : Nat → Nat → Int64} (h : CR c z M) (hf : ∀ x, x < 934 ∨ 938 ≤ x → I2 x = mI M x ∧ J2 x = mJ M x) : CR (c + 1) z (mk2 M I2 J2) ∧ MSame M (mk2 M I2 J2) := ⟨h.sc (fun x q => hf x (by unfold scX at q; omega)), MSame.mk2 (fun x a b => hf x (by omega))⟩
theorem m_costV {c t k : Nat} {z : ST} (h : MR z M) (hO : ZOK c z) (ht : t < 4) (hj : k < 1000) : Ci g Y_Mo_costsFor 101 [.ref 1020, .int (nI t), .int (nI k)] M (fun x M2 => x = nI (costA (zRes z) (sMd (zS z)) (sWo (zS z)) t k) ∧ MR z M2 ∧ CSame M M2) := by
  have q := m_costsFor (g := g) (t := t) (k := k) (A := mI M (1020 + 15)) (F := mI M 1020) h.1 h.2.1.1 hO.1.1 ht hj (h.2.1.n hO.1).1 (h.2.1.n hO.1).2.2.1.2 (h.2.1.n hO.1).2.2.2 V0_ok h.2.2.2.2.2.2.1.2.2.2.2.1
  rw [wk_id] at q
  refine q.to ?_
  rintro x M2 ⟨e1, A2, F2, rfl, e2⟩
  exact ⟨by rw [e1, (resV (resQ_ok _ _) _ t k (md := sMd (zS z))).1], h.wk (s2 := zS z) h.2.1 (fun k q => e2.1 k (by unfold moW at q; omega)) e2.2, CSame.wk⟩
theorem m_barV {c t k : Nat} {z : ST} (h : MR z M) (hO : ZOK c z) (ht : t < 4) (hj : k < 1000) : Ci g Y_Mo_isBarred 101 [.ref 1020, .int (nI t), .int (nI k)] M (fun x M2 => x = bI (barA (zRes z) (sMd (zS z)) (sWo (zS z)) t k) ∧ MR z M2 ∧ CSame M M2) := by
  have q := m_isBarred (g := g) (t := t) (k := k) (A := mI M (1020 + 15)) (F := mI M 1020) (br := barA (zRes z) (sMd (zS z)) (sWo (zS z)) t k) h.1 h.2.1.1 hO.1.1 ht hj (h.2.1.n hO.1).1 (h.2.1.n hO.1).2.2.1.2 (h.2.1.n hO.1).2.2.2 V0_ok h.2.2.2.2.2.2.1.2.2.2.2.1 (by rw [(resV (resQ_ok _ _) _ t k (md := sMd (zS z))).1])
  rw [wk_id] at q
  refine q.to ?_
  rintro x M2 ⟨e1, A2, F2, rfl, e2⟩
  exact ⟨e1, h.wk (s2 := zS z) h.2.1 (fun k q => e2.1 k (by unfold moW at q; omega)) e2.2, CSame.wk⟩
theorem rowF {f : Nat → Int32} {L : List Nat} {k : Nat} (h : RowI f 0 L) : fnd f L.length (nI k) = posL L k := Row0.fnd h
theorem b_key {t w a : Int32} : Both g Y_Mc_key Y_Mo_key [.int t, .int w, .int a] := by
  intro c z hc hO
  by_cases hin : inB t 4 = true ∧ inB w 1000 = true
  · obtain ⟨bt, bw⟩ := hin
    obtain ⟨k, ht, rfl⟩ := inB_t bt (by omega)
    obtain ⟨j, hj, rfl⟩ := inB_t bw (by omega)
    have hTO := hO.1.1.2 k ht
    have h24 := hTO.1
    have h6 := hTO.2.1
    rcases i32c a 5 (by omega) with ⟨v, hv, rfl⟩ | ⟨ba, ha⟩
    · rcases (show v = 0 ∨ v = 1 ∨ v = 2 ∨ v = 3 ∨ v = 4 by omega) with rfl | rfl | rfl | rfl | rfl
      · refine ⟨nI (posL (tSt ((sWo (zS z)).2 k)) j), z, hO.le (by omega), fun M h => ?_, fun M h => ?_⟩
        · skip
          have hC' := h.le (Nat.le_succ c)
          obtain ⟨pf, pg, hL, hSC, hTC, hIC, hDC, hPC, hNC, hBC, hZC⟩ := h
          obtain ⟨t0, ⟨r00, hSh⟩, ⟨r01, hTr⟩, ⟨r02, hTg⟩, ⟨r03, hWa⟩, ⟨r04, hWp⟩, ⟨r06, t921, r921a, r921b, hS0, hS1⟩, ⟨r07, t922⟩, ⟨r08, t923⟩, ⟨r010, hPa⟩, ⟨r011, hJu⟩, ⟨r012, hRe⟩, ⟨r013, hCu⟩, ⟨r014, hDe⟩, ⟨r018, t959⟩, hPf⟩ := id hL
          have t1 : mT M 1 = (6, 0) := hSh.1
          have r10 : mR M 1 0 = some 2 := hSh.2.1
          have hW2 : WoAt (mT M) (mR M) 2 := hSh.2.2.1
          have t2 : mT M 2 = (9, 0) := hW2.1
          have r20 : mR M 2 0 = some 3 := hW2.2.1
          have t3 : mT M 3 = (24, 4) := hW2.2.2.1
          have t31 : mT M 31 = (8, 0) := hTr.1
          have t924 : mT M 924 = (3, 0) := hPa.1
          have t934 : mT M 934 = (2, 0) := hJu.1
          have t938 : mT M 938 = (5, 0) := hRe.1
          have t947 : mT M 947 = (0, 0) := hCu.1
          have t952 : mT M 952 = (1, 0) := hDe.1
          have rTe : mR M 3 k = some (4 + 6 * k) := (hW2.2.2.2 k ht).1
          have hTA : TeAt (mT M) (mR M) (4 + 6 * k) := (hW2.2.2.2 k ht).2
          have hTH : TeHas (mI M) (mJ M) (4 + 6 * k) ((sWo (zS z)).2 k) := hSC.1.2 k ht
          have tTe := hTA.1
          have e1 := hTH.1
          have rst := hTA.2.1
          have tst := hTA.2.2.2.2.2.2.1
          refine cw_entry 1 pf_Mc_key rfl ?_
          refine wp_iload_n rfl (ck_get kk_Mc_key 0 rfl) ?_
          refine wp_cS1i (ck_get kk_Mc_key 1 rfl) ml_Mc_103 (by omega) (Nat.le_of_ble_eq_true rfl) (Ci.to (c_isTenant) ?_)
          rintro _ M1 ⟨rfl, eqm1⟩
          obtain rfl := eqm1.symm
          rw [bt]
          first | refine wp_if_eqN (t := 14) (ck_get kk_Mc_key 2 rfl) (by decide) (by omega) (fun hc4 => ?_) (fun hc4 => ?_) | refine wp_if_eq (t := 14) (ck_get kk_Mc_key 2 rfl) (by decide) (fun hc4 => ?_) (fun hc4 => ?_)
          · exact absurd hc4 (by decide)
          · refine wp_iload_n rfl (ck_get kk_Mc_key 3 rfl) ?_
            refine wp_cS1i (ck_get kk_Mc_key 4 rfl) ml_Mc_134 (by omega) (Nat.le_of_ble_eq_true rfl) (Ci.to (c_isKey) ?_)
            rintro _ M1 ⟨rfl, eqm1⟩
            obtain rfl := eqm1.symm
            rw [bw]
            first | refine wp_if_neN (t := 16) (ck_get kk_Mc_key 5 rfl) (by decide) (by omega) (fun hc11 => ?_) (fun hc11 => ?_) | refine wp_if_ne (t := 16) (ck_get kk_Mc_key 5 rfl) (by decide) (fun hc11 => ?_) (fun hc11 => ?_)
            · refine wp_aload_n rfl (ck_get kk_Mc_key 8 rfl) ?_
              refine wp_getR (ck_get kk_Mc_key 9 rfl) fl_Mc_12 (by assumption) (by assumption) ?_
              refine wp_getR (ck_get kk_Mc_key 10 rfl) fl_Mc_107 (by assumption) (by assumption) ?_
              refine wp_getR (ck_get kk_Mc_key 11 rfl) fl_Mc_110 (by assumption) (by assumption) ?_
              refine wp_iload_n rfl (ck_get kk_Mc_key 12 rfl) ?_
              refine wp_aald (ck_get kk_Mc_key 13 rfl) (by assumption) (by first | assumption | exact ixk_nI (by omega) (by omega)) (by assumption) ?_
              refine wp_astore (ck_get kk_Mc_key 14 rfl) (by decide) rfl ?_
              refine wp_iload_n rfl (ck_get kk_Mc_key 15 rfl) ?_
              refine wp_tabIn (t := 64) (off := 33) (ck_get kk_Mc_key 16 rfl) (by decide) (by decide) rfl (by decide) ?_
              refine wp_aload rfl (ck_get kk_Mc_key 17 rfl) ?_
              refine wp_getR (ck_get kk_Mc_key 18 rfl) fl_Mc_131 (by assumption) (by assumption) ?_
              refine wp_aload rfl (ck_get kk_Mc_key 19 rfl) ?_
              first | refine wp_getIv (ck_get kk_Mc_key 20 rfl) fl_Mc_114 (by assumption) (by assumption) ?_ | refine wp_getI (ck_get kk_Mc_key 20 rfl) fl_Mc_114 (by assumption) ?_
              refine wp_iload_n rfl (ck_get kk_Mc_key 21 rfl) ?_
              refine wp_cS3i (ck_get kk_Mc_key 22 rfl) ml_Mc_137 (by omega) (Nat.le_of_ble_eq_true rfl) (Ci.to (c_placeIn (by exact tst) (by omega) (by omega)) ?_)
              rintro _ M1 ⟨rfl, eqm1⟩
              obtain rfl := eqm1.symm
              refine wp_ireturn (ck_get kk_Mc_key 23 rfl) rfl rfl ⟨_, rfl, ?_⟩
              exact ⟨by rw [rowF hTH.2.1], hC', MSame.refl _⟩
            · exact absurd hc11 (by decide)
        · skip
          obtain ⟨hM, hSM, hUM, hIM, hDM, hPM, hNM, hBM⟩ := id h
          have to0 := hM.1
          refine cw_entry 0 pf_Mo_key rfl ?_
          refine wp_iload_n rfl (ck_get kk_Mo_key 0 rfl) ?_
          refine wp_cS1i (ck_get kk_Mo_key 1 rfl) ml_Mo_152 (by omega) (Nat.le_of_ble_eq_true rfl) (Ci.to (m_isTenant) ?_)
          rintro _ M1 ⟨rfl, eqm1⟩
          obtain rfl := eqm1.symm
          rw [bt]
          first | refine wp_if_eqN (t := 14) (ck_get kk_Mo_key 2 rfl) (by decide) (by omega) (fun hc4 => ?_) (fun hc4 => ?_) | refine wp_if_eq (t := 14) (ck_get kk_Mo_key 2 rfl) (by decide) (fun hc4 => ?_) (fun hc4 => ?_)
          · exact absurd hc4 (by decide)
          · refine wp_iload_n rfl (ck_get kk_Mo_key 3 rfl) ?_
            refine wp_cS1i (ck_get kk_Mo_key 4 rfl) ml_Mo_156 (by omega) (Nat.le_of_ble_eq_true rfl) (Ci.to (m_isKey) ?_)
            rintro _ M1 ⟨rfl, eqm1⟩
            obtain rfl := eqm1.symm
            rw [bw]
            first | refine wp_if_neN (t := 16) (ck_get kk_Mo_key 5 rfl) (by decide) (by omega) (fun hc11 => ?_) (fun hc11 => ?_) | refine wp_if_ne (t := 16) (ck_get kk_Mo_key 5 rfl) (by decide) (fun hc11 => ?_) (fun hc11 => ?_)
            · refine wp_iload_n rfl (ck_get kk_Mo_key 8 rfl) ?_
              refine wp_tabIn (t := 52) (off := 35) (ck_get kk_Mo_key 9 rfl) (by decide) (by decide) rfl (by decide) ?_
              refine wp_aload_n rfl (ck_get kk_Mo_key 10 rfl) ?_
              refine wp_iload_n rfl (ck_get kk_Mo_key 11 rfl) ?_
              refine wp_iconst (v := nI 0) (by decide) (ck_get kk_Mo_key 12 rfl) ?_
              refine wp_iload_n rfl (ck_get kk_Mo_key 13 rfl) ?_
              refine wp_cV3i (ck_get kk_Mo_key 14 rfl) ml_Mo_159 (by omega) (Nat.le_of_ble_eq_true rfl) (by assumption) (Ci.to (m_place (L := tSt ((sWo (zS z)).2 k)) (row := 0) hM (hSM.1.t (b := 0) (pb := 0) ht).1 (by omega)) ?_)
              rintro _ M1 ⟨rfl, eqm1⟩
              obtain rfl := eqm1.symm
              refine wp_ireturn (ck_get kk_Mo_key 15 rfl) rfl rfl ⟨_, rfl, ?_⟩
              exact ⟨rfl, h, CSame.refl _⟩
            · exact absurd hc11 (by decide)
      · refine ⟨nI (posL (tSa ((sWo (zS z)).2 k)) j), z, hO.le (by omega), fun M h => ?_, fun M h => ?_⟩
        · skip
          have hC' := h.le (Nat.le_succ c)
          obtain ⟨pf, pg, hL, hSC, hTC, hIC, hDC, hPC, hNC, hBC, hZC⟩ := h
          obtain ⟨t0, ⟨r00, hSh⟩, ⟨r01, hTr⟩, ⟨r02, hTg⟩, ⟨r03, hWa⟩, ⟨r04, hWp⟩, ⟨r06, t921, r921a, r921b, hS0, hS1⟩, ⟨r07, t922⟩, ⟨r08, t923⟩, ⟨r010, hPa⟩, ⟨r011, hJu⟩, ⟨r012, hRe⟩, ⟨r013, hCu⟩, ⟨r014, hDe⟩, ⟨r018, t959⟩, hPf⟩ := id hL
          have t1 : mT M 1 = (6, 0) := hSh.1
          have r10 : mR M 1 0 = some 2 := hSh.2.1
          have hW2 : WoAt (mT M) (mR M) 2 := hSh.2.2.1
          have t2 : mT M 2 = (9, 0) := hW2.1
          have r20 : mR M 2 0 = some 3 := hW2.2.1
          have t3 : mT M 3 = (24, 4) := hW2.2.2.1
          have t31 : mT M 31 = (8, 0) := hTr.1
          have t924 : mT M 924 = (3, 0) := hPa.1
          have t934 : mT M 934 = (2, 0) := hJu.1
          have t938 : mT M 938 = (5, 0) := hRe.1
          have t947 : mT M 947 = (0, 0) := hCu.1
          have t952 : mT M 952 = (1, 0) := hDe.1
          have rTe : mR M 3 k = some (4 + 6 * k) := (hW2.2.2.2 k ht).1
          have hTA : TeAt (mT M) (mR M) (4 + 6 * k) := (hW2.2.2.2 k ht).2
          have hTH : TeHas (mI M) (mJ M) (4 + 6 * k) ((sWo (zS z)).2 k) := hSC.1.2 k ht
          have tTe := hTA.1
          have e1 := hTH.2.2.2.1
          have rst := hTA.2.2.2.1
          have tst := hTA.2.2.2.2.2.2.2.2.1
          refine cw_entry 1 pf_Mc_key rfl ?_
          refine wp_iload_n rfl (ck_get kk_Mc_key 0 rfl) ?_
          refine wp_cS1i (ck_get kk_Mc_key 1 rfl) ml_Mc_103 (by omega) (Nat.le_of_ble_eq_true rfl) (Ci.to (c_isTenant) ?_)
          rintro _ M1 ⟨rfl, eqm1⟩
          obtain rfl := eqm1.symm
          rw [bt]
          first | refine wp_if_eqN (t := 14) (ck_get kk_Mc_key 2 rfl) (by decide) (by omega) (fun hc4 => ?_) (fun hc4 => ?_) | refine wp_if_eq (t := 14) (ck_get kk_Mc_key 2 rfl) (by decide) (fun hc4 => ?_) (fun hc4 => ?_)
          · exact absurd hc4 (by decide)
          · refine wp_iload_n rfl (ck_get kk_Mc_key 3 rfl) ?_
            refine wp_cS1i (ck_get kk_Mc_key 4 rfl) ml_Mc_134 (by omega) (Nat.le_of_ble_eq_true rfl) (Ci.to (c_isKey) ?_)
            rintro _ M1 ⟨rfl, eqm1⟩
            obtain rfl := eqm1.symm
            rw [bw]
            first | refine wp_if_neN (t := 16) (ck_get kk_Mc_key 5 rfl) (by decide) (by omega) (fun hc11 => ?_) (fun hc11 => ?_) | refine wp_if_ne (t := 16) (ck_get kk_Mc_key 5 rfl) (by decide) (fun hc11 => ?_) (fun hc11 => ?_)
            · refine wp_aload_n rfl (ck_get kk_Mc_key 8 rfl) ?_
              refine wp_getR (ck_get kk_Mc_key 9 rfl) fl_Mc_12 (by assumption) (by assumption) ?_
              refine wp_getR (ck_get kk_Mc_key 10 rfl) fl_Mc_107 (by assumption) (by assumption) ?_
              refine wp_getR (ck_get kk_Mc_key 11 rfl) fl_Mc_110 (by assumption) (by assumption) ?_
              refine wp_iload_n rfl (ck_get kk_Mc_key 12 rfl) ?_
              refine wp_aald (ck_get kk_Mc_key 13 rfl) (by assumption) (by first | assumption | exact ixk_nI (by omega) (by omega)) (by assumption) ?_
              refine wp_astore (ck_get kk_Mc_key 14 rfl) (by decide) rfl ?_
              refine wp_iload_n rfl (ck_get kk_Mc_key 15 rfl) ?_
              refine wp_tabIn (t := 79) (off := 48) (ck_get kk_Mc_key 16 rfl) (by decide) (by decide) rfl (by decide) ?_
              refine wp_aload rfl (ck_get kk_Mc_key 24 rfl) ?_
              refine wp_getR (ck_get kk_Mc_key 25 rfl) fl_Mc_141 (by assumption) (by assumption) ?_
              refine wp_aload rfl (ck_get kk_Mc_key 26 rfl) ?_
              first | refine wp_getIv (ck_get kk_Mc_key 27 rfl) fl_Mc_119 (by assumption) (by assumption) ?_ | refine wp_getI (ck_get kk_Mc_key 27 rfl) fl_Mc_119 (by assumption) ?_
              refine wp_iload_n rfl (ck_get kk_Mc_key 28 rfl) ?_
              refine wp_cS3i (ck_get kk_Mc_key 29 rfl) ml_Mc_137 (by omega) (Nat.le_of_ble_eq_true rfl) (Ci.to (c_placeIn (by exact tst) (by omega) (by omega)) ?_)
              rintro _ M1 ⟨rfl, eqm1⟩
              obtain rfl := eqm1.symm
              refine wp_ireturn (ck_get kk_Mc_key 30 rfl) rfl rfl ⟨_, rfl, ?_⟩
              exact ⟨by rw [rowF hTH.2.2.2.2.1], hC', MSame.refl _⟩
            · exact absurd hc11 (by decide)
        · skip
          obtain ⟨hM, hSM, hUM, hIM, hDM, hPM, hNM, hBM⟩ := id h
          have to0 := hM.1
          refine cw_entry 0 pf_Mo_key rfl ?_
          refine wp_iload_n rfl (ck_get kk_Mo_key 0 rfl) ?_
          refine wp_cS1i (ck_get kk_Mo_key 1 rfl) ml_Mo_152 (by omega) (Nat.le_of_ble_eq_true rfl) (Ci.to (m_isTenant) ?_)
          rintro _ M1 ⟨rfl, eqm1⟩
          obtain rfl := eqm1.symm
          rw [bt]
          first | refine wp_if_eqN (t := 14) (ck_get kk_Mo_key 2 rfl) (by decide) (by omega) (fun hc4 => ?_) (fun hc4 => ?_) | refine wp_if_eq (t := 14) (ck_get kk_Mo_key 2 rfl) (by decide) (fun hc4 => ?_) (fun hc4 => ?_)
          · exact absurd hc4 (by decide)
          · refine wp_iload_n rfl (ck_get kk_Mo_key 3 rfl) ?_
            refine wp_cS1i (ck_get kk_Mo_key 4 rfl) ml_Mo_156 (by omega) (Nat.le_of_ble_eq_true rfl) (Ci.to (m_isKey) ?_)
            rintro _ M1 ⟨rfl, eqm1⟩
            obtain rfl := eqm1.symm
            rw [bw]
            first | refine wp_if_neN (t := 16) (ck_get kk_Mo_key 5 rfl) (by decide) (by omega) (fun hc11 => ?_) (fun hc11 => ?_) | refine wp_if_ne (t := 16) (ck_get kk_Mo_key 5 rfl) (by decide) (fun hc11 => ?_) (fun hc11 => ?_)
            · refine wp_iload_n rfl (ck_get kk_Mo_key 8 rfl) ?_
              refine wp_tabIn (t := 60) (off := 43) (ck_get kk_Mo_key 9 rfl) (by decide) (by decide) rfl (by decide) ?_
              refine wp_aload_n rfl (ck_get kk_Mo_key 16 rfl) ?_
              refine wp_iload_n rfl (ck_get kk_Mo_key 17 rfl) ?_
              refine wp_bipush (v := nI 50) (by decide) (ck_get kk_Mo_key 18 rfl) ?_
              refine wp_iload_n rfl (ck_get kk_Mo_key 19 rfl) ?_
              refine wp_cV3i (ck_get kk_Mo_key 20 rfl) ml_Mo_159 (by omega) (Nat.le_of_ble_eq_true rfl) (by assumption) (Ci.to (m_place (L := tSa ((sWo (zS z)).2 k)) (row := 50) hM (hSM.1.t (b := 0) (pb := 0) ht).2.2.1 (by omega)) ?_)
              rintro _ M1 ⟨rfl, eqm1⟩
              obtain rfl := eqm1.symm
              refine wp_ireturn (ck_get kk_Mo_key 21 rfl) rfl rfl ⟨_, rfl, ?_⟩
              exact ⟨rfl, h, CSame.refl _⟩
            · exact absurd hc11 (by decide)
      · refine ⟨nI (hsh j (sSl (zS z))), z, hO.le (by omega), fun M h => ?_, fun M h => ?_⟩
        · skip
          have hC' := h.le (Nat.le_succ c)
          obtain ⟨pf, pg, hL, hSC, hTC, hIC, hDC, hPC, hNC, hBC, hZC⟩ := h
          obtain ⟨t0, ⟨r00, hSh⟩, ⟨r01, hTr⟩, ⟨r02, hTg⟩, ⟨r03, hWa⟩, ⟨r04, hWp⟩, ⟨r06, t921, r921a, r921b, hS0, hS1⟩, ⟨r07, t922⟩, ⟨r08, t923⟩, ⟨r010, hPa⟩, ⟨r011, hJu⟩, ⟨r012, hRe⟩, ⟨r013, hCu⟩, ⟨r014, hDe⟩, ⟨r018, t959⟩, hPf⟩ := id hL
          have t1 : mT M 1 = (6, 0) := hSh.1
          have r10 : mR M 1 0 = some 2 := hSh.2.1
          have hW2 : WoAt (mT M) (mR M) 2 := hSh.2.2.1
          have t2 : mT M 2 = (9, 0) := hW2.1
          have r20 : mR M 2 0 = some 3 := hW2.2.1
          have t3 : mT M 3 = (24, 4) := hW2.2.2.1
          have t31 : mT M 31 = (8, 0) := hTr.1
          have t924 : mT M 924 = (3, 0) := hPa.1
          have t934 : mT M 934 = (2, 0) := hJu.1
          have t938 : mT M 938 = (5, 0) := hRe.1
          have t947 : mT M 947 = (0, 0) := hCu.1
          have t952 : mT M 952 = (1, 0) := hDe.1
          have rTe : mR M 3 k = some (4 + 6 * k) := (hW2.2.2.2 k ht).1
          have hTA : TeAt (mT M) (mR M) (4 + 6 * k) := (hW2.2.2.2 k ht).2
          have hTH : TeHas (mI M) (mJ M) (4 + 6 * k) ((sWo (zS z)).2 k) := hSC.1.2 k ht
          have tTe := hTA.1
          have e4 := hSC.2.2.2.2.1
          refine cw_entry 1 pf_Mc_key rfl ?_
          refine wp_iload_n rfl (ck_get kk_Mc_key 0 rfl) ?_
          refine wp_cS1i (ck_get kk_Mc_key 1 rfl) ml_Mc_103 (by omega) (Nat.le_of_ble_eq_true rfl) (Ci.to (c_isTenant) ?_)
          rintro _ M1 ⟨rfl, eqm1⟩
          obtain rfl := eqm1.symm
          rw [bt]
          first | refine wp_if_eqN (t := 14) (ck_get kk_Mc_key 2 rfl) (by decide) (by omega) (fun hc4 => ?_) (fun hc4 => ?_) | refine wp_if_eq (t := 14) (ck_get kk_Mc_key 2 rfl) (by decide) (fun hc4 => ?_) (fun hc4 => ?_)
          · exact absurd hc4 (by decide)
          · refine wp_iload_n rfl (ck_get kk_Mc_key 3 rfl) ?_
            refine wp_cS1i (ck_get kk_Mc_key 4 rfl) ml_Mc_134 (by omega) (Nat.le_of_ble_eq_true rfl) (Ci.to (c_isKey) ?_)
            rintro _ M1 ⟨rfl, eqm1⟩
            obtain rfl := eqm1.symm
            rw [bw]
            first | refine wp_if_neN (t := 16) (ck_get kk_Mc_key 5 rfl) (by decide) (by omega) (fun hc11 => ?_) (fun hc11 => ?_) | refine wp_if_ne (t := 16) (ck_get kk_Mc_key 5 rfl) (by decide) (fun hc11 => ?_) (fun hc11 => ?_)
            · refine wp_aload_n rfl (ck_get kk_Mc_key 8 rfl) ?_
              refine wp_getR (ck_get kk_Mc_key 9 rfl) fl_Mc_12 (by assumption) (by assumption) ?_
              refine wp_getR (ck_get kk_Mc_key 10 rfl) fl_Mc_107 (by assumption) (by assumption) ?_
              refine wp_getR (ck_get kk_Mc_key 11 rfl) fl_Mc_110 (by assumption) (by assumption) ?_
              refine wp_iload_n rfl (ck_get kk_Mc_key 12 rfl) ?_
              refine wp_aald (ck_get kk_Mc_key 13 rfl) (by assumption) (by first | assumption | exact ixk_nI (by omega) (by omega)) (by assumption) ?_
              refine wp_astore (ck_get kk_Mc_key 14 rfl) (by decide) rfl ?_
              refine wp_iload_n rfl (ck_get kk_Mc_key 15 rfl) ?_
              refine wp_tabIn (t := 94) (off := 63) (ck_get kk_Mc_key 16 rfl) (by decide) (by decide) rfl (by decide) ?_
              refine wp_iload_n rfl (ck_get kk_Mc_key 31 rfl) ?_
              refine wp_aload_n rfl (ck_get kk_Mc_key 32 rfl) ?_
              refine wp_getR (ck_get kk_Mc_key 33 rfl) fl_Mc_12 (by assumption) (by assumption) ?_
              first | refine wp_getIv (ck_get kk_Mc_key 34 rfl) fl_Mc_144 (by assumption) (by assumption) ?_ | refine wp_getI (ck_get kk_Mc_key 34 rfl) fl_Mc_144 (by assumption) ?_
              refine wp_cS2i (ck_get kk_Mc_key 35 rfl) ml_Mc_147 (by omega) (Nat.le_of_ble_eq_true rfl) (Ci.to (c_hashOf hj hO.1.2.2.2.2.2.1) ?_)
              rintro _ M1 ⟨rfl, eqm1⟩
              obtain rfl := eqm1.symm
              refine wp_ireturn (ck_get kk_Mc_key 36 rfl) rfl rfl ⟨_, rfl, ?_⟩
              exact ⟨rfl, hC', MSame.refl _⟩
            · exact absurd hc11 (by decide)
        · skip
          obtain ⟨hM, hSM, hUM, hIM, hDM, hPM, hNM, hBM⟩ := id h
          have to0 := hM.1
          refine cw_entry 0 pf_Mo_key rfl ?_
          refine wp_iload_n rfl (ck_get kk_Mo_key 0 rfl) ?_
          refine wp_cS1i (ck_get kk_Mo_key 1 rfl) ml_Mo_152 (by omega) (Nat.le_of_ble_eq_true rfl) (Ci.to (m_isTenant) ?_)
          rintro _ M1 ⟨rfl, eqm1⟩
          obtain rfl := eqm1.symm
          rw [bt]
          first | refine wp_if_eqN (t := 14) (ck_get kk_Mo_key 2 rfl) (by decide) (by omega) (fun hc4 => ?_) (fun hc4 => ?_) | refine wp_if_eq (t := 14) (ck_get kk_Mo_key 2 rfl) (by decide) (fun hc4 => ?_) (fun hc4 => ?_)
          · exact absurd hc4 (by decide)
          · refine wp_iload_n rfl (ck_get kk_Mo_key 3 rfl) ?_
            refine wp_cS1i (ck_get kk_Mo_key 4 rfl) ml_Mo_156 (by omega) (Nat.le_of_ble_eq_true rfl) (Ci.to (m_isKey) ?_)
            rintro _ M1 ⟨rfl, eqm1⟩
            obtain rfl := eqm1.symm
            rw [bw]
            first | refine wp_if_neN (t := 16) (ck_get kk_Mo_key 5 rfl) (by decide) (by omega) (fun hc11 => ?_) (fun hc11 => ?_) | refine wp_if_ne (t := 16) (ck_get kk_Mo_key 5 rfl) (by decide) (fun hc11 => ?_) (fun hc11 => ?_)
            · refine wp_iload_n rfl (ck_get kk_Mo_key 8 rfl) ?_
              refine wp_tabIn (t := 69) (off := 52) (ck_get kk_Mo_key 9 rfl) (by decide) (by decide) rfl (by decide) ?_
              refine wp_aload_n rfl (ck_get kk_Mo_key 22 rfl) ?_
              refine wp_iload_n rfl (ck_get kk_Mo_key 23 rfl) ?_
              refine wp_cV1i (ck_get kk_Mo_key 24 rfl) ml_Mo_163 (by omega) (Nat.le_of_ble_eq_true rfl) (by assumption) (Ci.to (m_hashOf hM hSM.2.2.2.2.2.1 hj hO.1.2.2.2.2.2.1) ?_)
              rintro _ M1 ⟨rfl, eqm1⟩
              obtain rfl := eqm1.symm
              refine wp_ireturn (ck_get kk_Mo_key 25 rfl) rfl rfl ⟨_, rfl, ?_⟩
              exact ⟨rfl, h, CSame.refl _⟩
            · exact absurd hc11 (by decide)
      · refine ⟨nI (costA (zRes z) (sMd (zS z)) (sWo (zS z)) k j), z, hO.le (by omega), fun M h => ?_, fun M h => ?_⟩
        · have hCR := h
          obtain ⟨pv, hlaw, hwg⟩ := c_weighV (g := g) (k := j) h hO ht hO.1.2.2.2.2.2.2.2.2.2.2
          have hC' := h.le (Nat.le_succ c)
          obtain ⟨pf, pg, hL, hSC, hTC, hIC, hDC, hPC, hNC, hBC, hZC⟩ := h
          obtain ⟨t0, ⟨r00, hSh⟩, ⟨r01, hTr⟩, ⟨r02, hTg⟩, ⟨r03, hWa⟩, ⟨r04, hWp⟩, ⟨r06, t921, r921a, r921b, hS0, hS1⟩, ⟨r07, t922⟩, ⟨r08, t923⟩, ⟨r010, hPa⟩, ⟨r011, hJu⟩, ⟨r012, hRe⟩, ⟨r013, hCu⟩, ⟨r014, hDe⟩, ⟨r018, t959⟩, hPf⟩ := id hL
          have t1 : mT M 1 = (6, 0) := hSh.1
          have r10 : mR M 1 0 = some 2 := hSh.2.1
          have hW2 : WoAt (mT M) (mR M) 2 := hSh.2.2.1
          have t2 : mT M 2 = (9, 0) := hW2.1
          have r20 : mR M 2 0 = some 3 := hW2.2.1
          have t3 : mT M 3 = (24, 4) := hW2.2.2.1
          have t31 : mT M 31 = (8, 0) := hTr.1
          have t924 : mT M 924 = (3, 0) := hPa.1
          have t934 : mT M 934 = (2, 0) := hJu.1
          have t938 : mT M 938 = (5, 0) := hRe.1
          have t947 : mT M 947 = (0, 0) := hCu.1
          have t952 : mT M 952 = (1, 0) := hDe.1
          have rTe : mR M 3 k = some (4 + 6 * k) := (hW2.2.2.2 k ht).1
          have hTA : TeAt (mT M) (mR M) (4 + 6 * k) := (hW2.2.2.2 k ht).2
          have hTH : TeHas (mI M) (mJ M) (4 + 6 * k) ((sWo (zS z)).2 k) := hSC.1.2 k ht
          have tTe := hTA.1
          have e10 := hSC.2.2.2.2.2.2.2.2.1
          refine cw_entry 1 pf_Mc_key rfl ?_
          refine wp_iload_n rfl (ck_get kk_Mc_key 0 rfl) ?_
          refine wp_cS1i (ck_get kk_Mc_key 1 rfl) ml_Mc_103 (by omega) (Nat.le_of_ble_eq_true rfl) (Ci.to (c_isTenant) ?_)
          rintro _ M1 ⟨rfl, eqm1⟩
          obtain rfl := eqm1.symm
          rw [bt]
          first | refine wp_if_eqN (t := 14) (ck_get kk_Mc_key 2 rfl) (by decide) (by omega) (fun hc4 => ?_) (fun hc4 => ?_) | refine wp_if_eq (t := 14) (ck_get kk_Mc_key 2 rfl) (by decide) (fun hc4 => ?_) (fun hc4 => ?_)
          · exact absurd hc4 (by decide)
          · refine wp_iload_n rfl (ck_get kk_Mc_key 3 rfl) ?_
            refine wp_cS1i (ck_get kk_Mc_key 4 rfl) ml_Mc_134 (by omega) (Nat.le_of_ble_eq_true rfl) (Ci.to (c_isKey) ?_)
            rintro _ M1 ⟨rfl, eqm1⟩
            obtain rfl := eqm1.symm
            rw [bw]
            first | refine wp_if_neN (t := 16) (ck_get kk_Mc_key 5 rfl) (by decide) (by omega) (fun hc11 => ?_) (fun hc11 => ?_) | refine wp_if_ne (t := 16) (ck_get kk_Mc_key 5 rfl) (by decide) (fun hc11 => ?_) (fun hc11 => ?_)
            · refine wp_aload_n rfl (ck_get kk_Mc_key 8 rfl) ?_
              refine wp_getR (ck_get kk_Mc_key 9 rfl) fl_Mc_12 (by assumption) (by assumption) ?_
              refine wp_getR (ck_get kk_Mc_key 10 rfl) fl_Mc_107 (by assumption) (by assumption) ?_
              refine wp_getR (ck_get kk_Mc_key 11 rfl) fl_Mc_110 (by assumption) (by assumption) ?_
              refine wp_iload_n rfl (ck_get kk_Mc_key 12 rfl) ?_
              refine wp_aald (ck_get kk_Mc_key 13 rfl) (by assumption) (by first | assumption | exact ixk_nI (by omega) (by omega)) (by assumption) ?_
              refine wp_astore (ck_get kk_Mc_key 14 rfl) (by decide) rfl ?_
              refine wp_iload_n rfl (ck_get kk_Mc_key 15 rfl) ?_
              refine wp_tabIn (t := 106) (off := 75) (ck_get kk_Mc_key 16 rfl) (by decide) (by decide) rfl (by decide) ?_
              refine wp_aload_n rfl (ck_get kk_Mc_key 37 rfl) ?_
              refine wp_getR (ck_get kk_Mc_key 38 rfl) fl_Mc_66 (by assumption) (by assumption) ?_
              refine wp_aload_n rfl (ck_get kk_Mc_key 39 rfl) ?_
              refine wp_getR (ck_get kk_Mc_key 40 rfl) fl_Mc_12 (by assumption) (by assumption) ?_
              refine wp_aload_n rfl (ck_get kk_Mc_key 41 rfl) ?_
              refine wp_getR (ck_get kk_Mc_key 42 rfl) fl_Mc_12 (by assumption) (by assumption) ?_
              refine wp_aload_n rfl (ck_get kk_Mc_key 43 rfl) ?_
              refine wp_getR (ck_get kk_Mc_key 44 rfl) fl_Mc_12 (by assumption) (by assumption) ?_
              first | refine wp_getIv (ck_get kk_Mc_key 45 rfl) fl_Mc_151 (by assumption) (by assumption) ?_ | refine wp_getI (ck_get kk_Mc_key 45 rfl) fl_Mc_151 (by assumption) ?_
              refine wp_cV1a (ck_get kk_Mc_key 46 rfl) ml_Mc_154 (by omega) (Nat.le_of_ble_eq_true rfl) (by assumption) (Ca.to (hlaw) ?_)
              rintro _ M1 ⟨rfl, rfl⟩
              refine wp_aload_n rfl (ck_get kk_Mc_key 47 rfl) ?_
              refine wp_getR (ck_get kk_Mc_key 48 rfl) fl_Mc_12 (by assumption) (by assumption) ?_
              refine wp_getR (ck_get kk_Mc_key 49 rfl) fl_Mc_107 (by assumption) (by assumption) ?_
              refine wp_iload_n rfl (ck_get kk_Mc_key 50 rfl) ?_
              refine wp_iload_n rfl (ck_get kk_Mc_key 51 rfl) ?_
              refine wp_cV5v (ck_get kk_Mc_key 52 rfl) ml_Mc_158 (by omega) (Nat.le_of_ble_eq_true rfl) (by assumption) (Cv.to (hwg) ?_)
              rintro M2 ⟨I2, J2, rfl, w0, w1, wf⟩
              refine wp_aload_n rfl (ck_get kk_Mc_key 53 rfl) ?_
              refine wp_getR (ck_get kk_Mc_key 54 rfl) fl_Mc_66 (by assumption) (by assumption) ?_
              refine wp_getIv (v := nI (costA (zRes z) (sMd (zS z)) (sWo (zS z)) k j)) (ck_get kk_Mc_key 55 rfl) fl_Mc_162 (by assumption) (w0) ?_
              refine wp_ireturn (ck_get kk_Mc_key 56 rfl) rfl rfl ⟨_, rfl, ?_⟩
              exact ⟨rfl, hCR.ju wf⟩
            · exact absurd hc11 (by decide)
        · skip
          obtain ⟨hM, hSM, hUM, hIM, hDM, hPM, hNM, hBM⟩ := id h
          have to0 := hM.1
          refine cw_entry 0 pf_Mo_key rfl ?_
          refine wp_iload_n rfl (ck_get kk_Mo_key 0 rfl) ?_
          refine wp_cS1i (ck_get kk_Mo_key 1 rfl) ml_Mo_152 (by omega) (Nat.le_of_ble_eq_true rfl) (Ci.to (m_isTenant) ?_)
          rintro _ M1 ⟨rfl, eqm1⟩
          obtain rfl := eqm1.symm
          rw [bt]
          first | refine wp_if_eqN (t := 14) (ck_get kk_Mo_key 2 rfl) (by decide) (by omega) (fun hc4 => ?_) (fun hc4 => ?_) | refine wp_if_eq (t := 14) (ck_get kk_Mo_key 2 rfl) (by decide) (fun hc4 => ?_) (fun hc4 => ?_)
          · exact absurd hc4 (by decide)
          · refine wp_iload_n rfl (ck_get kk_Mo_key 3 rfl) ?_
            refine wp_cS1i (ck_get kk_Mo_key 4 rfl) ml_Mo_156 (by omega) (Nat.le_of_ble_eq_true rfl) (Ci.to (m_isKey) ?_)
            rintro _ M1 ⟨rfl, eqm1⟩
            obtain rfl := eqm1.symm
            rw [bw]
            first | refine wp_if_neN (t := 16) (ck_get kk_Mo_key 5 rfl) (by decide) (by omega) (fun hc11 => ?_) (fun hc11 => ?_) | refine wp_if_ne (t := 16) (ck_get kk_Mo_key 5 rfl) (by decide) (fun hc11 => ?_) (fun hc11 => ?_)
            · refine wp_iload_n rfl (ck_get kk_Mo_key 8 rfl) ?_
              refine wp_tabIn (t := 75) (off := 58) (ck_get kk_Mo_key 9 rfl) (by decide) (by decide) rfl (by decide) ?_
              refine wp_aload_n rfl (ck_get kk_Mo_key 26 rfl) ?_
              refine wp_iload_n rfl (ck_get kk_Mo_key 27 rfl) ?_
              refine wp_iload_n rfl (ck_get kk_Mo_key 28 rfl) ?_
              refine wp_cV2i (ck_get kk_Mo_key 29 rfl) ml_Mo_166 (by omega) (Nat.le_of_ble_eq_true rfl) (by assumption) (Ci.to (m_costV h hO ht hj) ?_)
              rintro x M1 e1
              refine wp_ireturn (ck_get kk_Mo_key 30 rfl) rfl rfl ⟨_, rfl, ?_⟩
              exact e1
            · exact absurd hc11 (by decide)
      · refine ⟨bI (barA (zRes z) (sMd (zS z)) (sWo (zS z)) k j), z, hO.le (by omega), fun M h => ?_, fun M h => ?_⟩
        · have hCR := h
          obtain ⟨pv, hlaw, hwg⟩ := c_weighV (g := g) (k := j) h hO ht hO.1.2.2.2.2.2.2.2.2.2.2
          have hC' := h.le (Nat.le_succ c)
          obtain ⟨pf, pg, hL, hSC, hTC, hIC, hDC, hPC, hNC, hBC, hZC⟩ := h
          obtain ⟨t0, ⟨r00, hSh⟩, ⟨r01, hTr⟩, ⟨r02, hTg⟩, ⟨r03, hWa⟩, ⟨r04, hWp⟩, ⟨r06, t921, r921a, r921b, hS0, hS1⟩, ⟨r07, t922⟩, ⟨r08, t923⟩, ⟨r010, hPa⟩, ⟨r011, hJu⟩, ⟨r012, hRe⟩, ⟨r013, hCu⟩, ⟨r014, hDe⟩, ⟨r018, t959⟩, hPf⟩ := id hL
          have t1 : mT M 1 = (6, 0) := hSh.1
          have r10 : mR M 1 0 = some 2 := hSh.2.1
          have hW2 : WoAt (mT M) (mR M) 2 := hSh.2.2.1
          have t2 : mT M 2 = (9, 0) := hW2.1
          have r20 : mR M 2 0 = some 3 := hW2.2.1
          have t3 : mT M 3 = (24, 4) := hW2.2.2.1
          have t31 : mT M 31 = (8, 0) := hTr.1
          have t924 : mT M 924 = (3, 0) := hPa.1
          have t934 : mT M 934 = (2, 0) := hJu.1
          have t938 : mT M 938 = (5, 0) := hRe.1
          have t947 : mT M 947 = (0, 0) := hCu.1
          have t952 : mT M 952 = (1, 0) := hDe.1
          have rTe : mR M 3 k = some (4 + 6 * k) := (hW2.2.2.2 k ht).1
          have hTA : TeAt (mT M) (mR M) (4 + 6 * k) := (hW2.2.2.2 k ht).2
          have hTH : TeHas (mI M) (mJ M) (4 + 6 * k) ((sWo (zS z)).2 k) := hSC.1.2 k ht
          have tTe := hTA.1
          have e10 := hSC.2.2.2.2.2.2.2.2.1
          refine cw_entry 1 pf_Mc_key rfl ?_
          refine wp_iload_n rfl (ck_get kk_Mc_key 0 rfl) ?_
          refine wp_cS1i (ck_get kk_Mc_key 1 rfl) ml_Mc_103 (by omega) (Nat.le_of_ble_eq_true rfl) (Ci.to (c_isTenant) ?_)
          rintro _ M1 ⟨rfl, eqm1⟩
          obtain rfl := eqm1.symm
          rw [bt]
          first | refine wp_if_eqN (t := 14) (ck_get kk_Mc_key 2 rfl) (by decide) (by omega) (fun hc4 => ?_) (fun hc4 => ?_) | refine wp_if_eq (t := 14) (ck_get kk_Mc_key 2 rfl) (by decide) (fun hc4 => ?_) (fun hc4 => ?_)
          · exact absurd hc4 (by decide)
          · refine wp_iload_n rfl (ck_get kk_Mc_key 3 rfl) ?_
            refine wp_cS1i (ck_get kk_Mc_key 4 rfl) ml_Mc_134 (by omega) (Nat.le_of_ble_eq_true rfl) (Ci.to (c_isKey) ?_)
            rintro _ M1 ⟨rfl, eqm1⟩
            obtain rfl := eqm1.symm
            rw [bw]
            first | refine wp_if_neN (t := 16) (ck_get kk_Mc_key 5 rfl) (by decide) (by omega) (fun hc11 => ?_) (fun hc11 => ?_) | refine wp_if_ne (t := 16) (ck_get kk_Mc_key 5 rfl) (by decide) (fun hc11 => ?_) (fun hc11 => ?_)
            · refine wp_aload_n rfl (ck_get kk_Mc_key 8 rfl) ?_
              refine wp_getR (ck_get kk_Mc_key 9 rfl) fl_Mc_12 (by assumption) (by assumption) ?_
              refine wp_getR (ck_get kk_Mc_key 10 rfl) fl_Mc_107 (by assumption) (by assumption) ?_
              refine wp_getR (ck_get kk_Mc_key 11 rfl) fl_Mc_110 (by assumption) (by assumption) ?_
              refine wp_iload_n rfl (ck_get kk_Mc_key 12 rfl) ?_
              refine wp_aald (ck_get kk_Mc_key 13 rfl) (by assumption) (by first | assumption | exact ixk_nI (by omega) (by omega)) (by assumption) ?_
              refine wp_astore (ck_get kk_Mc_key 14 rfl) (by decide) rfl ?_
              refine wp_iload_n rfl (ck_get kk_Mc_key 15 rfl) ?_
              refine wp_tabIn (t := 148) (off := 117) (ck_get kk_Mc_key 16 rfl) (by decide) (by decide) rfl (by decide) ?_
              refine wp_aload_n rfl (ck_get kk_Mc_key 57 rfl) ?_
              refine wp_getR (ck_get kk_Mc_key 58 rfl) fl_Mc_66 (by assumption) (by assumption) ?_
              refine wp_aload_n rfl (ck_get kk_Mc_key 59 rfl) ?_
              refine wp_getR (ck_get kk_Mc_key 60 rfl) fl_Mc_12 (by assumption) (by assumption) ?_
              refine wp_aload_n rfl (ck_get kk_Mc_key 61 rfl) ?_
              refine wp_getR (ck_get kk_Mc_key 62 rfl) fl_Mc_12 (by assumption) (by assumption) ?_
              refine wp_aload_n rfl (ck_get kk_Mc_key 63 rfl) ?_
              refine wp_getR (ck_get kk_Mc_key 64 rfl) fl_Mc_12 (by assumption) (by assumption) ?_
              first | refine wp_getIv (ck_get kk_Mc_key 65 rfl) fl_Mc_151 (by assumption) (by assumption) ?_ | refine wp_getI (ck_get kk_Mc_key 65 rfl) fl_Mc_151 (by assumption) ?_
              refine wp_cV1a (ck_get kk_Mc_key 66 rfl) ml_Mc_154 (by omega) (Nat.le_of_ble_eq_true rfl) (by assumption) (Ca.to (hlaw) ?_)
              rintro _ M1 ⟨rfl, rfl⟩
              refine wp_aload_n rfl (ck_get kk_Mc_key 67 rfl) ?_
              refine wp_getR (ck_get kk_Mc_key 68 rfl) fl_Mc_12 (by assumption) (by assumption) ?_
              refine wp_getR (ck_get kk_Mc_key 69 rfl) fl_Mc_107 (by assumption) (by assumption) ?_
              refine wp_iload_n rfl (ck_get kk_Mc_key 70 rfl) ?_
              refine wp_iload_n rfl (ck_get kk_Mc_key 71 rfl) ?_
              refine wp_cV5v (ck_get kk_Mc_key 72 rfl) ml_Mc_158 (by omega) (Nat.le_of_ble_eq_true rfl) (by assumption) (Cv.to (hwg) ?_)
              rintro M2 ⟨I2, J2, rfl, w0, w1, wf⟩
              refine wp_aload_n rfl (ck_get kk_Mc_key 73 rfl) ?_
              refine wp_getR (ck_get kk_Mc_key 74 rfl) fl_Mc_66 (by assumption) (by assumption) ?_
              refine wp_getIv (v := bI (barA (zRes z) (sMd (zS z)) (sWo (zS z)) k j)) (ck_get kk_Mc_key 75 rfl) fl_Mc_165 (by assumption) (w1) ?_
              refine wp_if_eq (t := 196) (ck_get kk_Mc_key 76 rfl) (by decide) (fun hc189 => ?_) (fun hc189 => ?_)
              · refine wp_iconst (v := nI 0) (by decide) (ck_get kk_Mc_key 79 rfl) ?_
                refine wp_ireturn (ck_get kk_Mc_key 80 rfl) rfl rfl ⟨_, rfl, ?_⟩
                exact ⟨by rw [bI_0 hc189]; rfl, hCR.ju wf⟩
              · refine wp_iconst (v := nI 1) (by decide) (ck_get kk_Mc_key 77 rfl) ?_
                refine wp_goto (t := 197) (ck_get kk_Mc_key 78 rfl) (by decide) ?_
                refine wp_ireturn (ck_get kk_Mc_key 80 rfl) rfl rfl ⟨_, rfl, ?_⟩
                exact ⟨by rw [bI_1 hc189]; rfl, hCR.ju wf⟩
            · exact absurd hc11 (by decide)
        · skip
          obtain ⟨hM, hSM, hUM, hIM, hDM, hPM, hNM, hBM⟩ := id h
          have to0 := hM.1
          refine cw_entry 0 pf_Mo_key rfl ?_
          refine wp_iload_n rfl (ck_get kk_Mo_key 0 rfl) ?_
          refine wp_cS1i (ck_get kk_Mo_key 1 rfl) ml_Mo_152 (by omega) (Nat.le_of_ble_eq_true rfl) (Ci.to (m_isTenant) ?_)
          rintro _ M1 ⟨rfl, eqm1⟩
          obtain rfl := eqm1.symm
          rw [bt]
          first | refine wp_if_eqN (t := 14) (ck_get kk_Mo_key 2 rfl) (by decide) (by omega) (fun hc4 => ?_) (fun hc4 => ?_) | refine wp_if_eq (t := 14) (ck_get kk_Mo_key 2 rfl) (by decide) (fun hc4 => ?_) (fun hc4 => ?_)
          · exact absurd hc4 (by decide)
          · refine wp_iload_n rfl (ck_get kk_Mo_key 3 rfl) ?_
            refine wp_cS1i (ck_get kk_Mo_key 4 rfl) ml_Mo_156 (by omega) (Nat.le_of_ble_eq_true rfl) (Ci.to (m_isKey) ?_)
            rintro _ M1 ⟨rfl, eqm1⟩
            obtain rfl := eqm1.symm
            rw [bw]
            first | refine wp_if_neN (t := 16) (ck_get kk_Mo_key 5 rfl) (by decide) (by omega) (fun hc11 => ?_) (fun hc11 => ?_) | refine wp_if_ne (t := 16) (ck_get kk_Mo_key 5 rfl) (by decide) (fun hc11 => ?_) (fun hc11 => ?_)
            · refine wp_iload_n rfl (ck_get kk_Mo_key 8 rfl) ?_
              refine wp_tabIn (t := 82) (off := 65) (ck_get kk_Mo_key 9 rfl) (by decide) (by decide) rfl (by decide) ?_
              refine wp_aload_n rfl (ck_get kk_Mo_key 31 rfl) ?_
              refine wp_iload_n rfl (ck_get kk_Mo_key 32 rfl) ?_
              refine wp_iload_n rfl (ck_get kk_Mo_key 33 rfl) ?_
              refine wp_cV2i (ck_get kk_Mo_key 34 rfl) ml_Mo_169 (by omega) (Nat.le_of_ble_eq_true rfl) (by assumption) (Ci.to (m_barV h hO ht hj) ?_)
              rintro x M1 ⟨e1, e2, e3⟩
              subst e1
              refine wp_if_eq (t := 95) (ck_get kk_Mo_key 35 rfl) (by decide) (fun hc88 => ?_) (fun hc88 => ?_)
              · refine wp_iconst (v := nI 0) (by decide) (ck_get kk_Mo_key 38 rfl) ?_
                refine wp_ireturn (ck_get kk_Mo_key 39 rfl) rfl rfl ⟨_, rfl, ?_⟩
                exact ⟨by rw [bI_0 hc88]; rfl, e2, e3⟩
              · refine wp_iconst (v := nI 1) (by decide) (ck_get kk_Mo_key 36 rfl) ?_
                refine wp_goto (t := 96) (ck_get kk_Mo_key 37 rfl) (by decide) ?_
                refine wp_ireturn (ck_get kk_Mo_key 39 rfl) rfl rfl ⟨_, rfl, ?_⟩
                exact ⟨by rw [bI_1 hc88]; rfl, e2, e3⟩
            · exact absurd hc11 (by decide)
    · refine ⟨-1, z, hO.le (by omega), fun M h => ?_, fun M h => ?_⟩
      · skip
        have hC' := h.le (Nat.le_succ c)
        obtain ⟨pf, pg, hL, hSC, hTC, hIC, hDC, hPC, hNC, hBC, hZC⟩ := h
        obtain ⟨t0, ⟨r00, hSh⟩, ⟨r01, hTr⟩, ⟨r02, hTg⟩, ⟨r03, hWa⟩, ⟨r04, hWp⟩, ⟨r06, t921, r921a, r921b, hS0, hS1⟩, ⟨r07, t922⟩, ⟨r08, t923⟩, ⟨r010, hPa⟩, ⟨r011, hJu⟩, ⟨r012, hRe⟩, ⟨r013, hCu⟩, ⟨r014, hDe⟩, ⟨r018, t959⟩, hPf⟩ := id hL
        have t1 : mT M 1 = (6, 0) := hSh.1
        have r10 : mR M 1 0 = some 2 := hSh.2.1
        have hW2 : WoAt (mT M) (mR M) 2 := hSh.2.2.1
        have t2 : mT M 2 = (9, 0) := hW2.1
        have r20 : mR M 2 0 = some 3 := hW2.2.1
        have t3 : mT M 3 = (24, 4) := hW2.2.2.1
        have t31 : mT M 31 = (8, 0) := hTr.1
        have t924 : mT M 924 = (3, 0) := hPa.1
        have t934 : mT M 934 = (2, 0) := hJu.1
        have t938 : mT M 938 = (5, 0) := hRe.1
        have t947 : mT M 947 = (0, 0) := hCu.1
        have t952 : mT M 952 = (1, 0) := hDe.1
        have rTe : mR M 3 k = some (4 + 6 * k) := (hW2.2.2.2 k ht).1
        have hTA : TeAt (mT M) (mR M) (4 + 6 * k) := (hW2.2.2.2 k ht).2
        have hTH : TeHas (mI M) (mJ M) (4 + 6 * k) ((sWo (zS z)).2 k) := hSC.1.2 k ht
        have tTe := hTA.1
        refine cw_entry 1 pf_Mc_key rfl ?_
        refine wp_iload_n rfl (ck_get kk_Mc_key 0 rfl) ?_
        refine wp_cS1i (ck_get kk_Mc_key 1 rfl) ml_Mc_103 (by omega) (Nat.le_of_ble_eq_true rfl) (Ci.to (c_isTenant) ?_)
        rintro _ M1 ⟨rfl, eqm1⟩
        obtain rfl := eqm1.symm
        rw [bt]
        first | refine wp_if_eqN (t := 14) (ck_get kk_Mc_key 2 rfl) (by decide) (by omega) (fun hc4 => ?_) (fun hc4 => ?_) | refine wp_if_eq (t := 14) (ck_get kk_Mc_key 2 rfl) (by decide) (fun hc4 => ?_) (fun hc4 => ?_)
        · exact absurd hc4 (by decide)
        · refine wp_iload_n rfl (ck_get kk_Mc_key 3 rfl) ?_
          refine wp_cS1i (ck_get kk_Mc_key 4 rfl) ml_Mc_134 (by omega) (Nat.le_of_ble_eq_true rfl) (Ci.to (c_isKey) ?_)
          rintro _ M1 ⟨rfl, eqm1⟩
          obtain rfl := eqm1.symm
          rw [bw]
          first | refine wp_if_neN (t := 16) (ck_get kk_Mc_key 5 rfl) (by decide) (by omega) (fun hc11 => ?_) (fun hc11 => ?_) | refine wp_if_ne (t := 16) (ck_get kk_Mc_key 5 rfl) (by decide) (fun hc11 => ?_) (fun hc11 => ?_)
          · refine wp_aload_n rfl (ck_get kk_Mc_key 8 rfl) ?_
            refine wp_getR (ck_get kk_Mc_key 9 rfl) fl_Mc_12 (by assumption) (by assumption) ?_
            refine wp_getR (ck_get kk_Mc_key 10 rfl) fl_Mc_107 (by assumption) (by assumption) ?_
            refine wp_getR (ck_get kk_Mc_key 11 rfl) fl_Mc_110 (by assumption) (by assumption) ?_
            refine wp_iload_n rfl (ck_get kk_Mc_key 12 rfl) ?_
            refine wp_aald (ck_get kk_Mc_key 13 rfl) (by assumption) (by first | assumption | exact ixk_nI (by omega) (by omega)) (by assumption) ?_
            refine wp_astore (ck_get kk_Mc_key 14 rfl) (by decide) rfl ?_
            refine wp_iload_n rfl (ck_get kk_Mc_key 15 rfl) ?_
            refine wp_tabOut (t := 198) (ck_get kk_Mc_key 16 rfl) (by omega) (by decide) ?_
            refine wp_iconst (v := (-1)) (by decide) (ck_get kk_Mc_key 81 rfl) ?_
            refine wp_ireturn (ck_get kk_Mc_key 82 rfl) rfl rfl ⟨_, rfl, ?_⟩
            exact ⟨rfl, hC', MSame.refl _⟩
          · exact absurd hc11 (by decide)
      · skip
        obtain ⟨hM, hSM, hUM, hIM, hDM, hPM, hNM, hBM⟩ := id h
        have to0 := hM.1
        refine cw_entry 0 pf_Mo_key rfl ?_
        refine wp_iload_n rfl (ck_get kk_Mo_key 0 rfl) ?_
        refine wp_cS1i (ck_get kk_Mo_key 1 rfl) ml_Mo_152 (by omega) (Nat.le_of_ble_eq_true rfl) (Ci.to (m_isTenant) ?_)
        rintro _ M1 ⟨rfl, eqm1⟩
        obtain rfl := eqm1.symm
        rw [bt]
        first | refine wp_if_eqN (t := 14) (ck_get kk_Mo_key 2 rfl) (by decide) (by omega) (fun hc4 => ?_) (fun hc4 => ?_) | refine wp_if_eq (t := 14) (ck_get kk_Mo_key 2 rfl) (by decide) (fun hc4 => ?_) (fun hc4 => ?_)
        · exact absurd hc4 (by decide)
        · refine wp_iload_n rfl (ck_get kk_Mo_key 3 rfl) ?_
          refine wp_cS1i (ck_get kk_Mo_key 4 rfl) ml_Mo_156 (by omega) (Nat.le_of_ble_eq_true rfl) (Ci.to (m_isKey) ?_)
          rintro _ M1 ⟨rfl, eqm1⟩
          obtain rfl := eqm1.symm
          rw [bw]
          first | refine wp_if_neN (t := 16) (ck_get kk_Mo_key 5 rfl) (by decide) (by omega) (fun hc11 => ?_) (fun hc11 => ?_) | refine wp_if_ne (t := 16) (ck_get kk_Mo_key 5 rfl) (by decide) (fun hc11 => ?_) (fun hc11 => ?_)
          · refine wp_iload_n rfl (ck_get kk_Mo_key 8 rfl) ?_
            refine wp_tabOut (t := 97) (ck_get kk_Mo_key 9 rfl) (by omega) (by decide) ?_
            refine wp_iconst (v := (-1)) (by decide) (ck_get kk_Mo_key 40 rfl) ?_
            refine wp_ireturn (ck_get kk_Mo_key 41 rfl) rfl rfl ⟨_, rfl, ?_⟩
            exact ⟨rfl, h, CSame.refl _⟩
          · exact absurd hc11 (by decide)
  · refine ⟨-1, z, hO.le (by omega), fun M h => ?_, fun M h => ?_⟩
    · skip
      have hC' := h.le (Nat.le_succ c)
      obtain ⟨pf, pg, hL, hSC, hTC, hIC, hDC, hPC, hNC, hBC, hZC⟩ := h
      obtain ⟨t0, ⟨r00, hSh⟩, ⟨r01, hTr⟩, ⟨r02, hTg⟩, ⟨r03, hWa⟩, ⟨r04, hWp⟩, ⟨r06, t921, r921a, r921b, hS0, hS1⟩, ⟨r07, t922⟩, ⟨r08, t923⟩, ⟨r010, hPa⟩, ⟨r011, hJu⟩, ⟨r012, hRe⟩, ⟨r013, hCu⟩, ⟨r014, hDe⟩, ⟨r018, t959⟩, hPf⟩ := id hL
      have t1 : mT M 1 = (6, 0) := hSh.1
      have r10 : mR M 1 0 = some 2 := hSh.2.1
      have hW2 : WoAt (mT M) (mR M) 2 := hSh.2.2.1
      have t2 : mT M 2 = (9, 0) := hW2.1
      have r20 : mR M 2 0 = some 3 := hW2.2.1
      have t3 : mT M 3 = (24, 4) := hW2.2.2.1
      have t31 : mT M 31 = (8, 0) := hTr.1
      have t924 : mT M 924 = (3, 0) := hPa.1
      have t934 : mT M 934 = (2, 0) := hJu.1
      have t938 : mT M 938 = (5, 0) := hRe.1
      have t947 : mT M 947 = (0, 0) := hCu.1
      have t952 : mT M 952 = (1, 0) := hDe.1
      refine cw_entry 1 pf_Mc_key rfl ?_
      refine wp_iload_n rfl (ck_get kk_Mc_key 0 rfl) ?_
      refine wp_cS1i (ck_get kk_Mc_key 1 rfl) ml_Mc_103 (by omega) (Nat.le_of_ble_eq_true rfl) (Ci.to (c_isTenant) ?_)
      rintro _ M1 ⟨rfl, eqm1⟩
      obtain rfl := eqm1.symm
      refine wp_if_eq (t := 14) (ck_get kk_Mc_key 2 rfl) (by decide) (fun hc4 => ?_) (fun hc4 => ?_)
      · refine wp_iconst (v := (-1)) (by decide) (ck_get kk_Mc_key 6 rfl) ?_
        refine wp_ireturn (ck_get kk_Mc_key 7 rfl) rfl rfl ⟨_, rfl, ?_⟩
        exact ⟨rfl, hC', MSame.refl _⟩
      · refine wp_iload_n rfl (ck_get kk_Mc_key 3 rfl) ?_
        refine wp_cS1i (ck_get kk_Mc_key 4 rfl) ml_Mc_134 (by omega) (Nat.le_of_ble_eq_true rfl) (Ci.to (c_isKey) ?_)
        rintro _ M1 ⟨rfl, eqm1⟩
        obtain rfl := eqm1.symm
        refine wp_if_ne (t := 16) (ck_get kk_Mc_key 5 rfl) (by decide) (fun hc11 => ?_) (fun hc11 => ?_)
        · exact absurd ⟨bI_1 hc4, bI_1 hc11⟩ hin
        · refine wp_iconst (v := (-1)) (by decide) (ck_get kk_Mc_key 6 rfl) ?_
          refine wp_ireturn (ck_get kk_Mc_key 7 rfl) rfl rfl ⟨_, rfl, ?_⟩
          exact ⟨rfl, hC', MSame.refl _⟩
    · skip
      obtain ⟨hM, hSM, hUM, hIM, hDM, hPM, hNM, hBM⟩ := id h
      have to0 := hM.1
      refine cw_entry 0 pf_Mo_key rfl ?_
      refine wp_iload_n rfl (ck_get kk_Mo_key 0 rfl) ?_
      refine wp_cS1i (ck_get kk_Mo_key 1 rfl) ml_Mo_152 (by omega) (Nat.le_of_ble_eq_true rfl) (Ci.to (m_isTenant) ?_)
      rintro _ M1 ⟨rfl, eqm1⟩
      obtain rfl := eqm1.symm
      refine wp_if_eq (t := 14) (ck_get kk_Mo_key 2 rfl) (by decide) (fun hc4 => ?_) (fun hc4 => ?_)
      · refine wp_iconst (v := (-1)) (by decide) (ck_get kk_Mo_key 6 rfl) ?_
        refine wp_ireturn (ck_get kk_Mo_key 7 rfl) rfl rfl ⟨_, rfl, ?_⟩
        exact ⟨rfl, h, CSame.refl _⟩
      · refine wp_iload_n rfl (ck_get kk_Mo_key 3 rfl) ?_
        refine wp_cS1i (ck_get kk_Mo_key 4 rfl) ml_Mo_156 (by omega) (Nat.le_of_ble_eq_true rfl) (Ci.to (m_isKey) ?_)
        rintro _ M1 ⟨rfl, eqm1⟩
        obtain rfl := eqm1.symm
        refine wp_if_ne (t := 16) (ck_get kk_Mo_key 5 rfl) (by decide) (fun hc11 => ?_) (fun hc11 => ?_)
        · exact absurd ⟨bI_1 hc4, bI_1 hc11⟩ hin
        · refine wp_iconst (v := (-1)) (by decide) (ck_get kk_Mo_key 6 rfl) ?_
          refine wp_ireturn (ck_get kk_Mo_key 7 rfl) rfl rfl ⟨_, rfl, ?_⟩
          exact ⟨rfl, h, CSame.refl _⟩
end KEY
