/-! ===== misses, guess, drawn, salted ===== -/
section MIS
variable {g : Gl} {M : Mem}
theorem c_isSize {t : Int32} : Ci g Y_Mc_isSize 0 [.int t] M (fun x M2 => x = bI (inB t 25) ∧ M2 = M) := by
  refine cw_entry 0 pf_Mc_isSize rfl ?_
  refine wp_iload_n rfl (ck_get kk_Mc_isSize 0 rfl) ?_
  refine wp_if_lt (t := 14) (ck_get kk_Mc_isSize 1 rfl) (by decide) (fun hc1 => ?_) (fun hc1 => ?_)
  · refine wp_iconst (v := nI 0) (by decide) (ck_get kk_Mc_isSize 7 rfl) ?_
    refine wp_ireturn (ck_get kk_Mc_isSize 8 rfl) rfl rfl ⟨_, rfl, ?_⟩
    exact ⟨by simp [bI, inB, hc1], rfl⟩
  · refine wp_iload_n rfl (ck_get kk_Mc_isSize 2 rfl) ?_
    refine wp_bipush (v := nI 24) (by decide) (ck_get kk_Mc_isSize 3 rfl) ?_
    refine wp_icmp_gt (t := 14) (ck_get kk_Mc_isSize 4 rfl) (by decide) (fun hc7 => ?_) (fun hc7 => ?_)
    · refine wp_iconst (v := nI 0) (by decide) (ck_get kk_Mc_isSize 7 rfl) ?_
      refine wp_ireturn (ck_get kk_Mc_isSize 8 rfl) rfl rfl ⟨_, rfl, ?_⟩
      have h6 : ¬ t < nI 25 := fun q => by
        have a := Int32.lt_iff_toInt_lt.mp q
        have b := Int32.lt_iff_toInt_lt.mp hc7
        rw [nI_toInt (by omega)] at a b
        omega
      exact ⟨by simp [bI, inB, h6], rfl⟩
    · refine wp_iconst (v := nI 1) (by decide) (ck_get kk_Mc_isSize 5 rfl) ?_
      refine wp_goto (t := 15) (ck_get kk_Mc_isSize 6 rfl) (by decide) ?_
      refine wp_ireturn (ck_get kk_Mc_isSize 8 rfl) rfl rfl ⟨_, rfl, ?_⟩
      have h6 : t < nI 25 := by
        have b := mt Int32.lt_iff_toInt_lt.mpr hc7
        refine Int32.lt_iff_toInt_lt.mpr ?_
        rw [nI_toInt (by omega)] at b ⊢
        omega
      exact ⟨by simp [bI, inB, hc1, h6], rfl⟩
theorem msA_c {f f2 : Nat → Int32} {c : Nat} (hc : c ≤ 24) (h : ∀ i, i < 25 → f i = f2 i) : msA f c = msA f2 c := by
  unfold msA
  rw [h 0 (by omega), sumI_congr (fun i hi => h _ (by omega))]
theorem gsA_c {f f2 : Nat → Int64} {c : Nat} (hc : c ≤ 24) (h : ∀ i, i < 25 → f i = f2 i) : gsA f c = gsA f2 c := by
  unfold gsA
  rw [h 0 (by omega), sumJ_congr (fun i hi => h _ (by omega))]
/-- what the model lays of a tenant -/
theorem lm_at {K f : Nat → Int32} {P : Nat → Int64} {w : WS} {t c : Nat} (h : MwHas K P 0 0 w) (ht : t < 4) (hc : c < 25) : lmF f K t 0 (25 * t + c) = msW w t c := by
  unfold lmF msW
  rw [if_pos (by omega), show 25 * t + c - 25 * t = c by omega]
  exact msA_c (by omega) (fun i hi => (h.t (b := 0) (pb := 0) ht).2.1 i hi)
theorem c_missW {a t c : Nat} {w : WS} (hW : WoAt (mT M) (mR M) a) (h : WoHas (mI M) (mJ M) a w) (ht : t < 4) (hc : c < 25) : Ci g Y_Te_missesAt 0 [.ref (a + 2 + 6 * t), .int (nI c)] M (fun x M2 => x = msW w t c ∧ M2 = M) := by
  refine (c_missesAt (hW.2.2.2 t ht).2 (by omega)).to ?_
  rintro x M2 ⟨e1, e2⟩
  exact ⟨e1.trans (msA_c (by omega) (h.2 t ht).2.2.1), e2⟩
theorem m_missAt {t c : Nat} (hM : MoAt (mT M) (mR M) 1020) (ht : t < 4) (hc : c < 25) : Ci g Y_Mo_missAt 0 [.ref 1020, .int (nI t), .int (nI c)] M (fun x M2 => x = mI M 1040 (25 * t + c) ∧ M2 = M) := by
  have to0 := hM.1
  have rfmissed := MoAt.r hM 19 rfl
  have tfmissed := MoAt.t hM 19 rfl
  refine cw_entry 0 pf_Mo_missAt rfl ?_
  refine wp_aload_n rfl (ck_get kk_Mo_missAt 0 rfl) ?_
  refine wp_getR (ck_get kk_Mo_missAt 1 rfl) fl_Mo_88 (by assumption) (by assumption) ?_
  refine wp_bipush (v := nI 25) (by decide) (ck_get kk_Mo_missAt 2 rfl) ?_
  refine wp_iload_n rfl (ck_get kk_Mo_missAt 3 rfl) ?_
  first | refine wp_imulN (ck_get kk_Mo_missAt 4 rfl) ?_ | refine wp_imul (ck_get kk_Mo_missAt 4 rfl) ?_
  refine wp_iload_n rfl (ck_get kk_Mo_missAt 5 rfl) ?_
  first | refine wp_iaddN (ck_get kk_Mo_missAt 6 rfl) ?_ | refine wp_iadd (ck_get kk_Mo_missAt 6 rfl) ?_
  refine wp_iald (ck_get kk_Mo_missAt 7 rfl) (by assumption) (ixk_nI (k := 25 * t + c) (by omega) (by omega)) ?_
  refine wp_ireturn (ck_get kk_Mo_missAt 8 rfl) rfl rfl ⟨_, rfl, ?_⟩
  exact ⟨rfl, rfl⟩
theorem MR.lm {z : ST} {t k : Nat} (h : MR z M) : MR z (lmM M 1020 t k) := h.sc (fun x q => up1_ne (by unfold moK at q; omega)) (fun x _ => rfl) (fun k _ => by rw [up1_ne (by omega)]) (by rw [up1_ne (by omega)]; exact h.2.2.2.2.2.2.1.2.2.2.2.1)
theorem CSame.lm {t k : Nat} : CSame M (lmM M 1020 t k) := CSame.mk2 (fun x q => ⟨up1_ne (by omega), rfl⟩)
theorem b_misses {t w : Int32} : Both g Y_Mc_misses Y_Mo_misses [.int t, .int w] := by
  intro c z hc hO
  by_cases hin : inB t 4 = true ∧ inB w 25 = true
  · obtain ⟨bt, bw⟩ := hin
    obtain ⟨k, ht, rfl⟩ := inB_t bt (by omega)
    obtain ⟨j, hj, rfl⟩ := inB_t bw (by omega)
    refine ⟨msW (sWo (zS z)) k j, z, hO.le (by omega), fun M h => ?_, fun M h => ?_⟩
    · skip
      have hC' := h.le (Nat.le_succ c)
      obtain ⟨pf, pg, hL, hSC, hTC, hIC, hDC, hPC, hNC, hBC, hZC⟩ := h
      obtain ⟨t0, ⟨r00, hSh⟩, ⟨r01, hTr⟩, ⟨r02, hTg⟩, ⟨r03, hWa⟩, ⟨r04, hWp⟩, ⟨r06, t921, r921a, r921b, hS0, hS1⟩, ⟨r07, t922⟩, ⟨r08, t923⟩, ⟨r010, hPa⟩, ⟨r011, hJu⟩, ⟨r012, hRe⟩, ⟨r013, hCu⟩, ⟨r014, hDe⟩, ⟨r018, t959⟩, hPf⟩ := id hL
      have t1 : mT M 1 = (6, 0) := hSh.1
      have r10 : mR M 1 0 = some 2 := hSh.2.1
      have hW2 : WoAt (mT M) (mR M) 2 := hSh.2.2.1
      have t2 : mT M 2 = (9, 0) := hW2.1
      have r20 : mR M 2 0 = some 3 := hW2.2.1
      have t3 : mT M 3 = (24, 4) := hW2.2.2.1
      have t31 : mT M 31 = (8, 0) := hTr.1
      have t924 : mT M 924 = (3, 0) := hPa.1
      have t934 : mT M 934 = (2, 0) := hJu.1
      have t938 : mT M 938 = (5, 0) := hRe.1
      have t947 : mT M 947 = (0, 0) := hCu.1
      have t952 : mT M 952 = (1, 0) := hDe.1
      have rTe : mR M 3 k = some (4 + 6 * k) := (hW2.2.2.2 k ht).1
      have hTA : TeAt (mT M) (mR M) (4 + 6 * k) := (hW2.2.2.2 k ht).2
      have hTH : TeHas (mI M) (mJ M) (4 + 6 * k) ((sWo (zS z)).2 k) := hSC.1.2 k ht
      have tTe := hTA.1
      refine cw_entry 0 pf_Mc_misses rfl ?_
      refine wp_iload_n rfl (ck_get kk_Mc_misses 0 rfl) ?_
      refine wp_cS1i (ck_get kk_Mc_misses 1 rfl) ml_Mc_103 (by omega) (Nat.le_of_ble_eq_true rfl) (Ci.to (c_isTenant) ?_)
      rintro _ M1 ⟨rfl, eqm1⟩
      obtain rfl := eqm1.symm
      rw [bt]
      first | refine wp_if_eqN (t := 33) (ck_get kk_Mc_misses 2 rfl) (by decide) (by omega) (fun hc4 => ?_) (fun hc4 => ?_) | refine wp_if_eq (t := 33) (ck_get kk_Mc_misses 2 rfl) (by decide) (fun hc4 => ?_) (fun hc4 => ?_)
      · exact absurd hc4 (by decide)
      · refine wp_iload_n rfl (ck_get kk_Mc_misses 3 rfl) ?_
        refine wp_cS1i (ck_get kk_Mc_misses 4 rfl) ml_Mc_275 (by omega) (Nat.le_of_ble_eq_true rfl) (Ci.to (c_isSize) ?_)
        rintro _ M1 ⟨rfl, eqm1⟩
        obtain rfl := eqm1.symm
        rw [bw]
        first | refine wp_if_eqN (t := 33) (ck_get kk_Mc_misses 5 rfl) (by decide) (by omega) (fun hc11 => ?_) (fun hc11 => ?_) | refine wp_if_eq (t := 33) (ck_get kk_Mc_misses 5 rfl) (by decide) (fun hc11 => ?_) (fun hc11 => ?_)
        · exact absurd hc11 (by decide)
        · refine wp_aload_n rfl (ck_get kk_Mc_misses 6 rfl) ?_
          refine wp_getR (ck_get kk_Mc_misses 7 rfl) fl_Mc_12 (by assumption) (by assumption) ?_
          refine wp_getR (ck_get kk_Mc_misses 8 rfl) fl_Mc_107 (by assumption) (by assumption) ?_
          refine wp_getR (ck_get kk_Mc_misses 9 rfl) fl_Mc_110 (by assumption) (by assumption) ?_
          refine wp_iload_n rfl (ck_get kk_Mc_misses 10 rfl) ?_
          refine wp_aald (ck_get kk_Mc_misses 11 rfl) (by assumption) (by first | assumption | exact ixk_nI (by omega) (by omega)) (by assumption) ?_
          refine wp_iload_n rfl (ck_get kk_Mc_misses 12 rfl) ?_
          refine wp_cV1i (ck_get kk_Mc_misses 13 rfl) ml_Mc_278 (by omega) (Nat.le_of_ble_eq_true rfl) (by assumption) (Ci.to (c_missW (a := 2) (by exact hW2) (by exact hSC.1) ht hj) ?_)
          rintro _ M1 ⟨rfl, eqm1⟩
          obtain rfl := eqm1.symm
          refine wp_goto (t := 34) (ck_get kk_Mc_misses 14 rfl) (by decide) ?_
          refine wp_ireturn (ck_get kk_Mc_misses 16 rfl) rfl rfl ⟨_, rfl, ?_⟩
          exact ⟨rfl, hC', MSame.refl _⟩
    · skip
      obtain ⟨hM, hSM, hUM, hIM, hDM, hPM, hNM, hBM⟩ := id h
      have to0 := hM.1
      refine cw_entry 0 pf_Mo_misses rfl ?_
      refine wp_iload_n rfl (ck_get kk_Mo_misses 0 rfl) ?_
      refine wp_cS1i (ck_get kk_Mo_misses 1 rfl) ml_Mo_152 (by omega) (Nat.le_of_ble_eq_true rfl) (Ci.to (m_isTenant) ?_)
      rintro _ M1 ⟨rfl, eqm1⟩
      obtain rfl := eqm1.symm
      rw [bt]
      first | refine wp_if_eqN (t := 14) (ck_get kk_Mo_misses 2 rfl) (by decide) (by omega) (fun hc4 => ?_) (fun hc4 => ?_) | refine wp_if_eq (t := 14) (ck_get kk_Mo_misses 2 rfl) (by decide) (fun hc4 => ?_) (fun hc4 => ?_)
      · exact absurd hc4 (by decide)
      · refine wp_iload_n rfl (ck_get kk_Mo_misses 3 rfl) ?_
        refine wp_cS1i (ck_get kk_Mo_misses 4 rfl) ml_Mo_404 (by omega) (Nat.le_of_ble_eq_true rfl) (Ci.to (m_isSize) ?_)
        rintro _ M1 ⟨rfl, eqm1⟩
        obtain rfl := eqm1.symm
        rw [bw]
        first | refine wp_if_neN (t := 16) (ck_get kk_Mo_misses 5 rfl) (by decide) (by omega) (fun hc11 => ?_) (fun hc11 => ?_) | refine wp_if_ne (t := 16) (ck_get kk_Mo_misses 5 rfl) (by decide) (fun hc11 => ?_) (fun hc11 => ?_)
        · refine wp_aload_n rfl (ck_get kk_Mo_misses 8 rfl) ?_
          refine wp_iload_n rfl (ck_get kk_Mo_misses 9 rfl) ?_
          refine wp_cV1v (ck_get kk_Mo_misses 10 rfl) ml_Mo_407 (by omega) (Nat.le_of_ble_eq_true rfl) (by assumption) (Cv.to (m_laysMisses hM ht) ?_)
          rintro M1 e1
          obtain rfl := e1
          refine wp_aload_n rfl (ck_get kk_Mo_misses 11 rfl) ?_
          refine wp_iload_n rfl (ck_get kk_Mo_misses 12 rfl) ?_
          refine wp_iload_n rfl (ck_get kk_Mo_misses 13 rfl) ?_
          refine wp_cV2i (ck_get kk_Mo_misses 14 rfl) ml_Mo_410 (by omega) (Nat.le_of_ble_eq_true rfl) (by assumption) (Ci.to (m_missAt (by exact hM) ht hj) ?_)
          rintro x M1 ⟨e2, e3⟩
          obtain rfl := e3
          refine wp_ireturn (ck_get kk_Mo_misses 15 rfl) rfl rfl ⟨_, rfl, ?_⟩
          exact ⟨e2.trans (by show up1 (mI M) (1020 + 20) _ (1020 + 20) _ = _; rw [up1_eq]; exact lm_at hSM.1 ht hj), h.lm, CSame.lm⟩
        · exact absurd hc11 (by decide)
  · refine ⟨-1, z, hO.le (by omega), fun M h => ?_, fun M h => ?_⟩
    · skip
      have hC' := h.le (Nat.le_succ c)
      obtain ⟨pf, pg, hL, hSC, hTC, hIC, hDC, hPC, hNC, hBC, hZC⟩ := h
      obtain ⟨t0, ⟨r00, hSh⟩, ⟨r01, hTr⟩, ⟨r02, hTg⟩, ⟨r03, hWa⟩, ⟨r04, hWp⟩, ⟨r06, t921, r921a, r921b, hS0, hS1⟩, ⟨r07, t922⟩, ⟨r08, t923⟩, ⟨r010, hPa⟩, ⟨r011, hJu⟩, ⟨r012, hRe⟩, ⟨r013, hCu⟩, ⟨r014, hDe⟩, ⟨r018, t959⟩, hPf⟩ := id hL
      have t1 : mT M 1 = (6, 0) := hSh.1
      have r10 : mR M 1 0 = some 2 := hSh.2.1
      have hW2 : WoAt (mT M) (mR M) 2 := hSh.2.2.1
      have t2 : mT M 2 = (9, 0) := hW2.1
      have r20 : mR M 2 0 = some 3 := hW2.2.1
      have t3 : mT M 3 = (24, 4) := hW2.2.2.1
      have t31 : mT M 31 = (8, 0) := hTr.1
      have t924 : mT M 924 = (3, 0) := hPa.1
      have t934 : mT M 934 = (2, 0) := hJu.1
      have t938 : mT M 938 = (5, 0) := hRe.1
      have t947 : mT M 947 = (0, 0) := hCu.1
      have t952 : mT M 952 = (1, 0) := hDe.1
      refine cw_entry 0 pf_Mc_misses rfl ?_
      refine wp_iload_n rfl (ck_get kk_Mc_misses 0 rfl) ?_
      refine wp_cS1i (ck_get kk_Mc_misses 1 rfl) ml_Mc_103 (by omega) (Nat.le_of_ble_eq_true rfl) (Ci.to (c_isTenant) ?_)
      rintro _ M1 ⟨rfl, eqm1⟩
      obtain rfl := eqm1.symm
      refine wp_if_eq (t := 33) (ck_get kk_Mc_misses 2 rfl) (by decide) (fun hc4 => ?_) (fun hc4 => ?_)
      · refine wp_iconst (v := (-1)) (by decide) (ck_get kk_Mc_misses 15 rfl) ?_
        refine wp_ireturn (ck_get kk_Mc_misses 16 rfl) rfl rfl ⟨_, rfl, ?_⟩
        exact ⟨rfl, hC', MSame.refl _⟩
      · refine wp_iload_n rfl (ck_get kk_Mc_misses 3 rfl) ?_
        refine wp_cS1i (ck_get kk_Mc_misses 4 rfl) ml_Mc_275 (by omega) (Nat.le_of_ble_eq_true rfl) (Ci.to (c_isSize) ?_)
        rintro _ M1 ⟨rfl, eqm1⟩
        obtain rfl := eqm1.symm
        refine wp_if_eq (t := 33) (ck_get kk_Mc_misses 5 rfl) (by decide) (fun hc11 => ?_) (fun hc11 => ?_)
        · refine wp_iconst (v := (-1)) (by decide) (ck_get kk_Mc_misses 15 rfl) ?_
          refine wp_ireturn (ck_get kk_Mc_misses 16 rfl) rfl rfl ⟨_, rfl, ?_⟩
          exact ⟨rfl, hC', MSame.refl _⟩
        · exact absurd ⟨bI_1 hc4, bI_1 hc11⟩ hin
    · skip
      obtain ⟨hM, hSM, hUM, hIM, hDM, hPM, hNM, hBM⟩ := id h
      have to0 := hM.1
      refine cw_entry 0 pf_Mo_misses rfl ?_
      refine wp_iload_n rfl (ck_get kk_Mo_misses 0 rfl) ?_
      refine wp_cS1i (ck_get kk_Mo_misses 1 rfl) ml_Mo_152 (by omega) (Nat.le_of_ble_eq_true rfl) (Ci.to (m_isTenant) ?_)
      rintro _ M1 ⟨rfl, eqm1⟩
      obtain rfl := eqm1.symm
      refine wp_if_eq (t := 14) (ck_get kk_Mo_misses 2 rfl) (by decide) (fun hc4 => ?_) (fun hc4 => ?_)
      · refine wp_iconst (v := (-1)) (by decide) (ck_get kk_Mo_misses 6 rfl) ?_
        refine wp_ireturn (ck_get kk_Mo_misses 7 rfl) rfl rfl ⟨_, rfl, ?_⟩
        exact ⟨rfl, h, CSame.refl _⟩
      · refine wp_iload_n rfl (ck_get kk_Mo_misses 3 rfl) ?_
        refine wp_cS1i (ck_get kk_Mo_misses 4 rfl) ml_Mo_404 (by omega) (Nat.le_of_ble_eq_true rfl) (Ci.to (m_isSize) ?_)
        rintro _ M1 ⟨rfl, eqm1⟩
        obtain rfl := eqm1.symm
        refine wp_if_ne (t := 16) (ck_get kk_Mo_misses 5 rfl) (by decide) (fun hc11 => ?_) (fun hc11 => ?_)
        · exact absurd ⟨bI_1 hc4, bI_1 hc11⟩ hin
        · refine wp_iconst (v := (-1)) (by decide) (ck_get kk_Mo_misses 6 rfl) ?_
          refine wp_ireturn (ck_get kk_Mo_misses 7 rfl) rfl rfl ⟨_, rfl, ?_⟩
          exact ⟨rfl, h, CSame.refl _⟩
theorem b_drawn {t w : Int32} : Both g Y_Mc_drawn Y_Mo_drawn [.int t, .int w] := by
  intro c z hc hO
  by_cases hin : (zD z).isSome = true ∧ inB t 4 = true ∧ inB w 25 = true
  · obtain ⟨bd, bt, bw⟩ := hin
    obtain ⟨k, ht, rfl⟩ := inB_t bt (by omega)
    obtain ⟨j, hj, rfl⟩ := inB_t bw (by omega)
    obtain ⟨d, hd⟩ := Option.isSome_iff_exists.mp bd
    refine ⟨msW d k j, z, hO.le (by omega), fun M h => ?_, fun M h => ?_⟩
    · skip
      have hC' := h.le (Nat.le_succ c)
      obtain ⟨pf, pg, hL, hSC, hTC, hIC, hDC, hPC, hNC, hBC, hZC⟩ := h
      obtain ⟨t0, ⟨r00, hSh⟩, ⟨r01, hTr⟩, ⟨r02, hTg⟩, ⟨r03, hWa⟩, ⟨r04, hWp⟩, ⟨r06, t921, r921a, r921b, hS0, hS1⟩, ⟨r07, t922⟩, ⟨r08, t923⟩, ⟨r010, hPa⟩, ⟨r011, hJu⟩, ⟨r012, hRe⟩, ⟨r013, hCu⟩, ⟨r014, hDe⟩, ⟨r018, t959⟩, hPf⟩ := id hL
      have t1 : mT M 1 = (6, 0) := hSh.1
      have r10 : mR M 1 0 = some 2 := hSh.2.1
      have hW2 : WoAt (mT M) (mR M) 2 := hSh.2.2.1
      have t2 : mT M 2 = (9, 0) := hW2.1
      have r20 : mR M 2 0 = some 3 := hW2.2.1
      have t3 : mT M 3 = (24, 4) := hW2.2.2.1
      have t31 : mT M 31 = (8, 0) := hTr.1
      have t924 : mT M 924 = (3, 0) := hPa.1
      have t934 : mT M 934 = (2, 0) := hJu.1
      have t938 : mT M 938 = (5, 0) := hRe.1
      have t947 : mT M 947 = (0, 0) := hCu.1
      have t952 : mT M 952 = (1, 0) := hDe.1
      have e5 := hDC.1
      have t895 : mT M 895 = (9, 0) := hWp.1
      have r895 : mR M 895 0 = some 896 := hWp.2.1
      have t896 : mT M 896 = (24, 4) := hWp.2.2.1
      have rTe : mR M 896 k = some (895 + 2 + 6 * k) := (hWp.2.2.2 k ht).1
      have tTe : mT M (895 + 2 + 6 * k) = (7, 0) := (hWp.2.2.2 k ht).2.1
      refine cw_entry 0 pf_Mc_drawn rfl ?_
      refine wp_aload_n rfl (ck_get kk_Mc_drawn 0 rfl) ?_
      first | refine wp_getIv (ck_get kk_Mc_drawn 1 rfl) fl_Mc_36 (by assumption) (by assumption) ?_ | refine wp_getI (ck_get kk_Mc_drawn 1 rfl) fl_Mc_36 (by assumption) ?_
      rw [bd]
      first | refine wp_if_eqN (t := 37) (ck_get kk_Mc_drawn 2 rfl) (by decide) (by omega) (fun hc4 => ?_) (fun hc4 => ?_) | refine wp_if_eq (t := 37) (ck_get kk_Mc_drawn 2 rfl) (by decide) (fun hc4 => ?_) (fun hc4 => ?_)
      · exact absurd hc4 (by decide)
      · refine wp_iload_n rfl (ck_get kk_Mc_drawn 3 rfl) ?_
        refine wp_cS1i (ck_get kk_Mc_drawn 4 rfl) ml_Mc_103 (by omega) (Nat.le_of_ble_eq_true rfl) (Ci.to (c_isTenant) ?_)
        rintro _ M1 ⟨rfl, eqm1⟩
        obtain rfl := eqm1.symm
        rw [bt]
        first | refine wp_if_eqN (t := 37) (ck_get kk_Mc_drawn 5 rfl) (by decide) (by omega) (fun hc11 => ?_) (fun hc11 => ?_) | refine wp_if_eq (t := 37) (ck_get kk_Mc_drawn 5 rfl) (by decide) (fun hc11 => ?_) (fun hc11 => ?_)
        · exact absurd hc11 (by decide)
        · refine wp_iload_n rfl (ck_get kk_Mc_drawn 6 rfl) ?_
          refine wp_cS1i (ck_get kk_Mc_drawn 7 rfl) ml_Mc_275 (by omega) (Nat.le_of_ble_eq_true rfl) (Ci.to (c_isSize) ?_)
          rintro _ M1 ⟨rfl, eqm1⟩
          obtain rfl := eqm1.symm
          rw [bw]
          first | refine wp_if_eqN (t := 37) (ck_get kk_Mc_drawn 8 rfl) (by decide) (by omega) (fun hc18 => ?_) (fun hc18 => ?_) | refine wp_if_eq (t := 37) (ck_get kk_Mc_drawn 8 rfl) (by decide) (fun hc18 => ?_) (fun hc18 => ?_)
          · exact absurd hc18 (by decide)
          · refine wp_aload_n rfl (ck_get kk_Mc_drawn 9 rfl) ?_
            refine wp_getR (ck_get kk_Mc_drawn 10 rfl) fl_Mc_33 (by assumption) (by assumption) ?_
            refine wp_getR (ck_get kk_Mc_drawn 11 rfl) fl_Mc_110 (by assumption) (by assumption) ?_
            refine wp_iload_n rfl (ck_get kk_Mc_drawn 12 rfl) ?_
            refine wp_aald (ck_get kk_Mc_drawn 13 rfl) (by assumption) (by first | assumption | exact ixk_nI (by omega) (by omega)) (by assumption) ?_
            refine wp_iload_n rfl (ck_get kk_Mc_drawn 14 rfl) ?_
            refine wp_cV1i (ck_get kk_Mc_drawn 15 rfl) ml_Mc_278 (by omega) (Nat.le_of_ble_eq_true rfl) (by assumption) (Ci.to (c_missW (a := 895) (by exact hWp) (hDC.2 d hd) ht hj) ?_)
            rintro _ M1 ⟨rfl, eqm1⟩
            obtain rfl := eqm1.symm
            refine wp_goto (t := 38) (ck_get kk_Mc_drawn 16 rfl) (by decide) ?_
            refine wp_ireturn (ck_get kk_Mc_drawn 18 rfl) rfl rfl ⟨_, rfl, ?_⟩
            exact ⟨rfl, hC', MSame.refl _⟩
    · skip
      obtain ⟨hM, hSM, hUM, hIM, hDM, hPM, hNM, hBM⟩ := id h
      have to0 := hM.1
      have rfdrawnMisses := MoAt.r hM 34 rfl
      have tfdrawnMisses := MoAt.t hM 34 rfl
      have e62 := hDM.1
      have e : mI M (1020 + 35) (25 * k + j) = msW d k j := hDM.2 d hd k j ht hj
      refine cw_entry 0 pf_Mo_drawn rfl ?_
      refine wp_aload_n rfl (ck_get kk_Mo_drawn 0 rfl) ?_
      first | refine wp_getIv (ck_get kk_Mo_drawn 1 rfl) fl_Mo_559 (by assumption) (by assumption) ?_ | refine wp_getI (ck_get kk_Mo_drawn 1 rfl) fl_Mo_559 (by assumption) ?_
      rw [bd]
      first | refine wp_if_eqN (t := 35) (ck_get kk_Mo_drawn 2 rfl) (by decide) (by omega) (fun hc4 => ?_) (fun hc4 => ?_) | refine wp_if_eq (t := 35) (ck_get kk_Mo_drawn 2 rfl) (by decide) (fun hc4 => ?_) (fun hc4 => ?_)
      · exact absurd hc4 (by decide)
      · refine wp_iload_n rfl (ck_get kk_Mo_drawn 3 rfl) ?_
        refine wp_cS1i (ck_get kk_Mo_drawn 4 rfl) ml_Mo_152 (by omega) (Nat.le_of_ble_eq_true rfl) (Ci.to (m_isTenant) ?_)
        rintro _ M1 ⟨rfl, eqm1⟩
        obtain rfl := eqm1.symm
        rw [bt]
        first | refine wp_if_eqN (t := 35) (ck_get kk_Mo_drawn 5 rfl) (by decide) (by omega) (fun hc11 => ?_) (fun hc11 => ?_) | refine wp_if_eq (t := 35) (ck_get kk_Mo_drawn 5 rfl) (by decide) (fun hc11 => ?_) (fun hc11 => ?_)
        · exact absurd hc11 (by decide)
        · refine wp_iload_n rfl (ck_get kk_Mo_drawn 6 rfl) ?_
          refine wp_cS1i (ck_get kk_Mo_drawn 7 rfl) ml_Mo_404 (by omega) (Nat.le_of_ble_eq_true rfl) (Ci.to (m_isSize) ?_)
          rintro _ M1 ⟨rfl, eqm1⟩
          obtain rfl := eqm1.symm
          rw [bw]
          first | refine wp_if_eqN (t := 35) (ck_get kk_Mo_drawn 8 rfl) (by decide) (by omega) (fun hc18 => ?_) (fun hc18 => ?_) | refine wp_if_eq (t := 35) (ck_get kk_Mo_drawn 8 rfl) (by decide) (fun hc18 => ?_) (fun hc18 => ?_)
          · exact absurd hc18 (by decide)
          · refine wp_aload_n rfl (ck_get kk_Mo_drawn 9 rfl) ?_
            refine wp_getR (ck_get kk_Mo_drawn 10 rfl) fl_Mo_136 (by assumption) (by assumption) ?_
            refine wp_bipush (v := nI 25) (by decide) (ck_get kk_Mo_drawn 11 rfl) ?_
            refine wp_iload_n rfl (ck_get kk_Mo_drawn 12 rfl) ?_
            first | refine wp_imulN (ck_get kk_Mo_drawn 13 rfl) ?_ | refine wp_imul (ck_get kk_Mo_drawn 13 rfl) ?_
            refine wp_iload_n rfl (ck_get kk_Mo_drawn 14 rfl) ?_
            first | refine wp_iaddN (ck_get kk_Mo_drawn 15 rfl) ?_ | refine wp_iadd (ck_get kk_Mo_drawn 15 rfl) ?_
            refine wp_ialdv (v := msW d k j) (ck_get kk_Mo_drawn 16 rfl) (by assumption) (ixk_nI (k := 25 * k + j) (by omega) (by omega)) (e) ?_
            refine wp_goto (t := 36) (ck_get kk_Mo_drawn 17 rfl) (by decide) ?_
            refine wp_ireturn (ck_get kk_Mo_drawn 19 rfl) rfl rfl ⟨_, rfl, ?_⟩
            exact ⟨rfl, h, CSame.refl _⟩
  · refine ⟨-1, z, hO.le (by omega), fun M h => ?_, fun M h => ?_⟩
    · skip
      have hC' := h.le (Nat.le_succ c)
      obtain ⟨pf, pg, hL, hSC, hTC, hIC, hDC, hPC, hNC, hBC, hZC⟩ := h
      obtain ⟨t0, ⟨r00, hSh⟩, ⟨r01, hTr⟩, ⟨r02, hTg⟩, ⟨r03, hWa⟩, ⟨r04, hWp⟩, ⟨r06, t921, r921a, r921b, hS0, hS1⟩, ⟨r07, t922⟩, ⟨r08, t923⟩, ⟨r010, hPa⟩, ⟨r011, hJu⟩, ⟨r012, hRe⟩, ⟨r013, hCu⟩, ⟨r014, hDe⟩, ⟨r018, t959⟩, hPf⟩ := id hL
      have t1 : mT M 1 = (6, 0) := hSh.1
      have r10 : mR M 1 0 = some 2 := hSh.2.1
      have hW2 : WoAt (mT M) (mR M) 2 := hSh.2.2.1
      have t2 : mT M 2 = (9, 0) := hW2.1
      have r20 : mR M 2 0 = some 3 := hW2.2.1
      have t3 : mT M 3 = (24, 4) := hW2.2.2.1
      have t31 : mT M 31 = (8, 0) := hTr.1
      have t924 : mT M 924 = (3, 0) := hPa.1
      have t934 : mT M 934 = (2, 0) := hJu.1
      have t938 : mT M 938 = (5, 0) := hRe.1
      have t947 : mT M 947 = (0, 0) := hCu.1
      have t952 : mT M 952 = (1, 0) := hDe.1
      have e5 := hDC.1
      refine cw_entry 0 pf_Mc_drawn rfl ?_
      refine wp_aload_n rfl (ck_get kk_Mc_drawn 0 rfl) ?_
      first | refine wp_getIv (ck_get kk_Mc_drawn 1 rfl) fl_Mc_36 (by assumption) (by assumption) ?_ | refine wp_getI (ck_get kk_Mc_drawn 1 rfl) fl_Mc_36 (by assumption) ?_
      refine wp_if_eq (t := 37) (ck_get kk_Mc_drawn 2 rfl) (by decide) (fun hc4 => ?_) (fun hc4 => ?_)
      · refine wp_iconst (v := (-1)) (by decide) (ck_get kk_Mc_drawn 17 rfl) ?_
        refine wp_ireturn (ck_get kk_Mc_drawn 18 rfl) rfl rfl ⟨_, rfl, ?_⟩
        exact ⟨rfl, hC', MSame.refl _⟩
      · refine wp_iload_n rfl (ck_get kk_Mc_drawn 3 rfl) ?_
        refine wp_cS1i (ck_get kk_Mc_drawn 4 rfl) ml_Mc_103 (by omega) (Nat.le_of_ble_eq_true rfl) (Ci.to (c_isTenant) ?_)
        rintro _ M1 ⟨rfl, eqm1⟩
        obtain rfl := eqm1.symm
        refine wp_if_eq (t := 37) (ck_get kk_Mc_drawn 5 rfl) (by decide) (fun hc11 => ?_) (fun hc11 => ?_)
        · refine wp_iconst (v := (-1)) (by decide) (ck_get kk_Mc_drawn 17 rfl) ?_
          refine wp_ireturn (ck_get kk_Mc_drawn 18 rfl) rfl rfl ⟨_, rfl, ?_⟩
          exact ⟨rfl, hC', MSame.refl _⟩
        · refine wp_iload_n rfl (ck_get kk_Mc_drawn 6 rfl) ?_
          refine wp_cS1i (ck_get kk_Mc_drawn 7 rfl) ml_Mc_275 (by omega) (Nat.le_of_ble_eq_true rfl) (Ci.to (c_isSize) ?_)
          rintro _ M1 ⟨rfl, eqm1⟩
          obtain rfl := eqm1.symm
          refine wp_if_eq (t := 37) (ck_get kk_Mc_drawn 8 rfl) (by decide) (fun hc18 => ?_) (fun hc18 => ?_)
          · refine wp_iconst (v := (-1)) (by decide) (ck_get kk_Mc_drawn 17 rfl) ?_
            refine wp_ireturn (ck_get kk_Mc_drawn 18 rfl) rfl rfl ⟨_, rfl, ?_⟩
            exact ⟨rfl, hC', MSame.refl _⟩
          · exact absurd ⟨bI_1 hc4, bI_1 hc11, bI_1 hc18⟩ hin
    · skip
      obtain ⟨hM, hSM, hUM, hIM, hDM, hPM, hNM, hBM⟩ := id h
      have to0 := hM.1
      have e62 := hDM.1
      refine cw_entry 0 pf_Mo_drawn rfl ?_
      refine wp_aload_n rfl (ck_get kk_Mo_drawn 0 rfl) ?_
      first | refine wp_getIv (ck_get kk_Mo_drawn 1 rfl) fl_Mo_559 (by assumption) (by assumption) ?_ | refine wp_getI (ck_get kk_Mo_drawn 1 rfl) fl_Mo_559 (by assumption) ?_
      refine wp_if_eq (t := 35) (ck_get kk_Mo_drawn 2 rfl) (by decide) (fun hc4 => ?_) (fun hc4 => ?_)
      · refine wp_iconst (v := (-1)) (by decide) (ck_get kk_Mo_drawn 18 rfl) ?_
        refine wp_ireturn (ck_get kk_Mo_drawn 19 rfl) rfl rfl ⟨_, rfl, ?_⟩
        exact ⟨rfl, h, CSame.refl _⟩
      · refine wp_iload_n rfl (ck_get kk_Mo_drawn 3 rfl) ?_
        refine wp_cS1i (ck_get kk_Mo_drawn 4 rfl) ml_Mo_152 (by omega) (Nat.le_of_ble_eq_true rfl) (Ci.to (m_isTenant) ?_)
        rintro _ M1 ⟨rfl, eqm1⟩
        obtain rfl := eqm1.symm
        refine wp_if_eq (t := 35) (ck_get kk_Mo_drawn 5 rfl) (by decide) (fun hc11 => ?_) (fun hc11 => ?_)
        · refine wp_iconst (v := (-1)) (by decide) (ck_get kk_Mo_drawn 18 rfl) ?_
          refine wp_ireturn (ck_get kk_Mo_drawn 19 rfl) rfl rfl ⟨_, rfl, ?_⟩
          exact ⟨rfl, h, CSame.refl _⟩
        · refine wp_iload_n rfl (ck_get kk_Mo_drawn 6 rfl) ?_
          refine wp_cS1i (ck_get kk_Mo_drawn 7 rfl) ml_Mo_404 (by omega) (Nat.le_of_ble_eq_true rfl) (Ci.to (m_isSize) ?_)
          rintro _ M1 ⟨rfl, eqm1⟩
          obtain rfl := eqm1.symm
          refine wp_if_eq (t := 35) (ck_get kk_Mo_drawn 8 rfl) (by decide) (fun hc18 => ?_) (fun hc18 => ?_)
          · refine wp_iconst (v := (-1)) (by decide) (ck_get kk_Mo_drawn 18 rfl) ?_
            refine wp_ireturn (ck_get kk_Mo_drawn 19 rfl) rfl rfl ⟨_, rfl, ?_⟩
            exact ⟨rfl, h, CSame.refl _⟩
          · exact absurd ⟨bI_1 hc4, bI_1 hc11, bI_1 hc18⟩ hin
theorem l_moGuess {t c : Nat} (hM : MoAt (mT M) (mR M) 1020) (ht : t < 4) (hc : c ≤ 24) {f : Nat → Int64} (hf : ∀ i, i < 25 → mJ M (1020 + 3) (25 * t + i) = f i) : ∀ k i, 24 - c = i + k → Wp g Y_Mo_guess 300 33 [some (.ref 1020), some (.int (nI t)), some (.int (nI c)), some (.long (f 0 + sumJ f (c + 1) i)), none, some (.int (nI (c + 1 + i))), none] [] M (fun r M2 => ∃ x, r = some (.int x) ∧ x = (minJ (gsA f c / 1000) 2000000000).toInt32 ∧ M2 = M) := by
  have to0 := hM.1
  have rfparts := MoAt.r hM 2 rfl
  have tfparts := MoAt.t hM 2 rfl
  intro k
  induction k with
  | zero =>
    intro i h1
    refine wp_iload rfl (ck_get kk_Mo_guess 21 rfl) ?_
    refine wp_bipush (v := nI 24) (by decide) (ck_get kk_Mo_guess 22 rfl) ?_
    first | refine wp_icmp_gtN (t := 61) (ck_get kk_Mo_guess 23 rfl) (by decide) (by omega) (by omega) (fun hc37 => ?_) (fun hc37 => ?_) | refine wp_icmp_gt (t := 61) (ck_get kk_Mo_guess 23 rfl) (by decide) (fun hc37 => ?_) (fun hc37 => ?_)
    · refine wp_lload_n rfl (ck_get kk_Mo_guess 37 rfl) ?_
      refine wp_ldc2 kl_Mo_415 (ck_get kk_Mo_guess 38 rfl) ?_
      refine wp_ldiv (by decide) (ck_get kk_Mo_guess 39 rfl) ?_
      refine wp_lstore (ck_get kk_Mo_guess 40 rfl) (by decide) rfl ?_
      refine wp_lload rfl (ck_get kk_Mo_guess 41 rfl) ?_
      refine wp_ldc2 kl_Mo_436 (ck_get kk_Mo_guess 42 rfl) ?_
      refine wp_lcmp (ck_get kk_Mo_guess 43 rfl) ?_
      refine wp_if_le (t := 83) (ck_get kk_Mo_guess 44 rfl) (by decide) (fun hc74 => ?_) (fun hc74 => ?_)
      · refine wp_lload rfl (ck_get kk_Mo_guess 47 rfl) ?_
        refine wp_l2i (ck_get kk_Mo_guess 48 rfl) ?_
        refine wp_ireturn (ck_get kk_Mo_guess 49 rfl) rfl rfl ⟨_, rfl, ?_⟩
        refine ⟨?_, rfl⟩
        obtain rfl : i = 24 - c := by omega
        unfold minJ gsA
        rw [if_neg ((lcmp_le _ _).mp hc74)]
      · refine wp_ldcw kl_Mo_438 (ck_get kk_Mo_guess 45 rfl) ?_
        refine wp_goto (t := 86) (ck_get kk_Mo_guess 46 rfl) (by decide) ?_
        refine wp_ireturn (ck_get kk_Mo_guess 49 rfl) rfl rfl ⟨_, rfl, ?_⟩
        refine ⟨?_, rfl⟩
        obtain rfl : i = 24 - c := by omega
        unfold minJ gsA
        rw [if_pos (Decidable.not_not.mp (mt (lcmp_le _ _).mpr hc74))]
        decide
    · omega
  | succ k ih =>
    intro i h1
    refine wp_iload rfl (ck_get kk_Mo_guess 21 rfl) ?_
    refine wp_bipush (v := nI 24) (by decide) (ck_get kk_Mo_guess 22 rfl) ?_
    first | refine wp_icmp_gtN (t := 61) (ck_get kk_Mo_guess 23 rfl) (by decide) (by omega) (by omega) (fun hc37 => ?_) (fun hc37 => ?_) | refine wp_icmp_gt (t := 61) (ck_get kk_Mo_guess 23 rfl) (by decide) (fun hc37 => ?_) (fun hc37 => ?_)
    · omega
    · refine wp_lload_n rfl (ck_get kk_Mo_guess 24 rfl) ?_
      refine wp_aload_n rfl (ck_get kk_Mo_guess 25 rfl) ?_
      refine wp_getR (ck_get kk_Mo_guess 26 rfl) fl_Mo_31 (by assumption) (by assumption) ?_
      refine wp_bipush (v := nI 25) (by decide) (ck_get kk_Mo_guess 27 rfl) ?_
      refine wp_iload_n rfl (ck_get kk_Mo_guess 28 rfl) ?_
      first | refine wp_imulN (ck_get kk_Mo_guess 29 rfl) ?_ | refine wp_imul (ck_get kk_Mo_guess 29 rfl) ?_
      refine wp_iload rfl (ck_get kk_Mo_guess 30 rfl) ?_
      first | refine wp_iaddN (ck_get kk_Mo_guess 31 rfl) ?_ | refine wp_iadd (ck_get kk_Mo_guess 31 rfl) ?_
      refine wp_laldv (v := f (c + 1 + i)) (ck_get kk_Mo_guess 32 rfl) (by assumption) (ixk_nI (k := 25 * t + (c + 1 + i)) (by omega) (by omega)) (hf _ (by omega)) ?_
      refine wp_ladd (ck_get kk_Mo_guess 33 rfl) ?_
      refine wp_lstore_n (ck_get kk_Mo_guess 34 rfl) (by decide) rfl ?_
      first | refine wp_iincN (ck_get kk_Mo_guess 35 rfl) rfl (by decide) rfl ?_ | refine wp_iinc (ck_get kk_Mo_guess 35 rfl) rfl (by decide) rfl ?_
      refine wp_goto (t := 33) (ck_get kk_Mo_guess 36 rfl) (by decide) ?_
      have e := ih (i + 1) (by omega)
      rw [show sumJ f (c + 1) (i + 1) = sumJ f (c + 1) i + f (c + 1 + i) from rfl, ← Int64.add_assoc] at e
      exact e
theorem b_guess {t w : Int32} : Both g Y_Mc_guess Y_Mo_guess [.int t, .int w] := by
  intro c z hc hO
  by_cases hin : inB t 4 = true ∧ inB w 25 = true
  · obtain ⟨bt, bw⟩ := hin
    obtain ⟨k, ht, rfl⟩ := inB_t bt (by omega)
    obtain ⟨j, hj, rfl⟩ := inB_t bw (by omega)
    refine ⟨(minJ (gsA (tPa ((sWo (zS z)).2 k)) j / 1000) 2000000000).toInt32, z, hO.le (by omega), fun M h => ?_, fun M h => ?_⟩
    · skip
      have hC' := h.le (Nat.le_succ c)
      obtain ⟨pf, pg, hL, hSC, hTC, hIC, hDC, hPC, hNC, hBC, hZC⟩ := h
      obtain ⟨t0, ⟨r00, hSh⟩, ⟨r01, hTr⟩, ⟨r02, hTg⟩, ⟨r03, hWa⟩, ⟨r04, hWp⟩, ⟨r06, t921, r921a, r921b, hS0, hS1⟩, ⟨r07, t922⟩, ⟨r08, t923⟩, ⟨r010, hPa⟩, ⟨r011, hJu⟩, ⟨r012, hRe⟩, ⟨r013, hCu⟩, ⟨r014, hDe⟩, ⟨r018, t959⟩, hPf⟩ := id hL
      have t1 : mT M 1 = (6, 0) := hSh.1
      have r10 : mR M 1 0 = some 2 := hSh.2.1
      have hW2 : WoAt (mT M) (mR M) 2 := hSh.2.2.1
      have t2 : mT M 2 = (9, 0) := hW2.1
      have r20 : mR M 2 0 = some 3 := hW2.2.1
      have t3 : mT M 3 = (24, 4) := hW2.2.2.1
      have t31 : mT M 31 = (8, 0) := hTr.1
      have t924 : mT M 924 = (3, 0) := hPa.1
      have t934 : mT M 934 = (2, 0) := hJu.1
      have t938 : mT M 938 = (5, 0) := hRe.1
      have t947 : mT M 947 = (0, 0) := hCu.1
      have t952 : mT M 952 = (1, 0) := hDe.1
      have rTe : mR M 3 k = some (4 + 6 * k) := (hW2.2.2.2 k ht).1
      have hTA : TeAt (mT M) (mR M) (4 + 6 * k) := (hW2.2.2.2 k ht).2
      have hTH : TeHas (mI M) (mJ M) (4 + 6 * k) ((sWo (zS z)).2 k) := hSC.1.2 k ht
      have tTe := hTA.1
      refine cw_entry 0 pf_Mc_guess rfl ?_
      refine wp_iload_n rfl (ck_get kk_Mc_guess 0 rfl) ?_
      refine wp_cS1i (ck_get kk_Mc_guess 1 rfl) ml_Mc_103 (by omega) (Nat.le_of_ble_eq_true rfl) (Ci.to (c_isTenant) ?_)
      rintro _ M1 ⟨rfl, eqm1⟩
      obtain rfl := eqm1.symm
      rw [bt]
      first | refine wp_if_eqN (t := 33) (ck_get kk_Mc_guess 2 rfl) (by decide) (by omega) (fun hc4 => ?_) (fun hc4 => ?_) | refine wp_if_eq (t := 33) (ck_get kk_Mc_guess 2 rfl) (by decide) (fun hc4 => ?_) (fun hc4 => ?_)
      · exact absurd hc4 (by decide)
      · refine wp_iload_n rfl (ck_get kk_Mc_guess 3 rfl) ?_
        refine wp_cS1i (ck_get kk_Mc_guess 4 rfl) ml_Mc_275 (by omega) (Nat.le_of_ble_eq_true rfl) (Ci.to (c_isSize) ?_)
        rintro _ M1 ⟨rfl, eqm1⟩
        obtain rfl := eqm1.symm
        rw [bw]
        first | refine wp_if_eqN (t := 33) (ck_get kk_Mc_guess 5 rfl) (by decide) (by omega) (fun hc11 => ?_) (fun hc11 => ?_) | refine wp_if_eq (t := 33) (ck_get kk_Mc_guess 5 rfl) (by decide) (fun hc11 => ?_) (fun hc11 => ?_)
        · exact absurd hc11 (by decide)
        · refine wp_aload_n rfl (ck_get kk_Mc_guess 6 rfl) ?_
          refine wp_getR (ck_get kk_Mc_guess 7 rfl) fl_Mc_12 (by assumption) (by assumption) ?_
          refine wp_getR (ck_get kk_Mc_guess 8 rfl) fl_Mc_107 (by assumption) (by assumption) ?_
          refine wp_getR (ck_get kk_Mc_guess 9 rfl) fl_Mc_110 (by assumption) (by assumption) ?_
          refine wp_iload_n rfl (ck_get kk_Mc_guess 10 rfl) ?_
          refine wp_aald (ck_get kk_Mc_guess 11 rfl) (by assumption) (by first | assumption | exact ixk_nI (by omega) (by omega)) (by assumption) ?_
          refine wp_iload_n rfl (ck_get kk_Mc_guess 12 rfl) ?_
          refine wp_cV1i (ck_get kk_Mc_guess 13 rfl) ml_Mc_314 (by omega) (Nat.le_of_ble_eq_true rfl) (by assumption) (Ci.to (c_guessAt (by exact hTA) (by omega)) ?_)
          rintro x M1 ⟨e1, e2⟩
          obtain rfl := e2.symm
          refine wp_goto (t := 34) (ck_get kk_Mc_guess 14 rfl) (by decide) ?_
          refine wp_ireturn (ck_get kk_Mc_guess 16 rfl) rfl rfl ⟨_, rfl, ?_⟩
          exact ⟨by rw [e1, gsA_c (by omega) hTH.2.2.2.2.2.2.1], hC', MSame.refl _⟩
    · skip
      obtain ⟨hM, hSM, hUM, hIM, hDM, hPM, hNM, hBM⟩ := id h
      have to0 := hM.1
      have rfparts := MoAt.r hM 2 rfl
      have tfparts := MoAt.t hM 2 rfl
      have hf : ∀ i, i < 25 → mJ M (1020 + 3) (25 * k + i) = tPa ((sWo (zS z)).2 k) i := (hSM.1.t (b := 0) (pb := 0) ht).2.2.2.2.1
      refine cw_entry 4 pf_Mo_guess rfl ?_
      refine wp_iload_n rfl (ck_get kk_Mo_guess 0 rfl) ?_
      refine wp_cS1i (ck_get kk_Mo_guess 1 rfl) ml_Mo_152 (by omega) (Nat.le_of_ble_eq_true rfl) (Ci.to (m_isTenant) ?_)
      rintro _ M1 ⟨rfl, eqm1⟩
      obtain rfl := eqm1.symm
      rw [bt]
      first | refine wp_if_eqN (t := 14) (ck_get kk_Mo_guess 2 rfl) (by decide) (by omega) (fun hc4 => ?_) (fun hc4 => ?_) | refine wp_if_eq (t := 14) (ck_get kk_Mo_guess 2 rfl) (by decide) (fun hc4 => ?_) (fun hc4 => ?_)
      · exact absurd hc4 (by decide)
      · refine wp_iload_n rfl (ck_get kk_Mo_guess 3 rfl) ?_
        refine wp_cS1i (ck_get kk_Mo_guess 4 rfl) ml_Mo_404 (by omega) (Nat.le_of_ble_eq_true rfl) (Ci.to (m_isSize) ?_)
        rintro _ M1 ⟨rfl, eqm1⟩
        obtain rfl := eqm1.symm
        rw [bw]
        first | refine wp_if_neN (t := 16) (ck_get kk_Mo_guess 5 rfl) (by decide) (by omega) (fun hc11 => ?_) (fun hc11 => ?_) | refine wp_if_ne (t := 16) (ck_get kk_Mo_guess 5 rfl) (by decide) (fun hc11 => ?_) (fun hc11 => ?_)
        · refine wp_aload_n rfl (ck_get kk_Mo_guess 8 rfl) ?_
          refine wp_getR (ck_get kk_Mo_guess 9 rfl) fl_Mo_31 (by assumption) (by assumption) ?_
          refine wp_bipush (v := nI 25) (by decide) (ck_get kk_Mo_guess 10 rfl) ?_
          refine wp_iload_n rfl (ck_get kk_Mo_guess 11 rfl) ?_
          first | refine wp_imulN (ck_get kk_Mo_guess 12 rfl) ?_ | refine wp_imul (ck_get kk_Mo_guess 12 rfl) ?_
          refine wp_iconst (v := nI 0) (by decide) (ck_get kk_Mo_guess 13 rfl) ?_
          first | refine wp_iaddN (ck_get kk_Mo_guess 14 rfl) ?_ | refine wp_iadd (ck_get kk_Mo_guess 14 rfl) ?_
          refine wp_laldv (v := tPa ((sWo (zS z)).2 k) 0) (ck_get kk_Mo_guess 15 rfl) (by assumption) (ixk_nI (k := 25 * k + 0) (by omega) (by omega)) (hf 0 (by omega)) ?_
          refine wp_lstore_n (ck_get kk_Mo_guess 16 rfl) (by decide) rfl ?_
          refine wp_iload_n rfl (ck_get kk_Mo_guess 17 rfl) ?_
          refine wp_iconst (v := nI 1) (by decide) (ck_get kk_Mo_guess 18 rfl) ?_
          first | refine wp_iaddN (ck_get kk_Mo_guess 19 rfl) ?_ | refine wp_iadd (ck_get kk_Mo_guess 19 rfl) ?_
          refine wp_istore (ck_get kk_Mo_guess 20 rfl) (by decide) rfl ?_
          have e := l_moGuess (g := g) (c := j) hM ht (by omega) hf (24 - j) 0 (by omega)
          rw [show tPa ((sWo (zS z)).2 k) 0 + sumJ (tPa ((sWo (zS z)).2 k)) (j + 1) 0 = tPa ((sWo (zS z)).2 k) 0 from Int64.add_zero _] at e
          refine e.mono ?_
          rintro r M2 ⟨x, rfl, rfl, rfl⟩
          exact ⟨_, rfl, rfl, h, CSame.refl _⟩
        · exact absurd hc11 (by decide)
  · refine ⟨-1, z, hO.le (by omega), fun M h => ?_, fun M h => ?_⟩
    · skip
      have hC' := h.le (Nat.le_succ c)
      obtain ⟨pf, pg, hL, hSC, hTC, hIC, hDC, hPC, hNC, hBC, hZC⟩ := h
      obtain ⟨t0, ⟨r00, hSh⟩, ⟨r01, hTr⟩, ⟨r02, hTg⟩, ⟨r03, hWa⟩, ⟨r04, hWp⟩, ⟨r06, t921, r921a, r921b, hS0, hS1⟩, ⟨r07, t922⟩, ⟨r08, t923⟩, ⟨r010, hPa⟩, ⟨r011, hJu⟩, ⟨r012, hRe⟩, ⟨r013, hCu⟩, ⟨r014, hDe⟩, ⟨r018, t959⟩, hPf⟩ := id hL
      have t1 : mT M 1 = (6, 0) := hSh.1
      have r10 : mR M 1 0 = some 2 := hSh.2.1
      have hW2 : WoAt (mT M) (mR M) 2 := hSh.2.2.1
      have t2 : mT M 2 = (9, 0) := hW2.1
      have r20 : mR M 2 0 = some 3 := hW2.2.1
      have t3 : mT M 3 = (24, 4) := hW2.2.2.1
      have t31 : mT M 31 = (8, 0) := hTr.1
      have t924 : mT M 924 = (3, 0) := hPa.1
      have t934 : mT M 934 = (2, 0) := hJu.1
      have t938 : mT M 938 = (5, 0) := hRe.1
      have t947 : mT M 947 = (0, 0) := hCu.1
      have t952 : mT M 952 = (1, 0) := hDe.1
      refine cw_entry 0 pf_Mc_guess rfl ?_
      refine wp_iload_n rfl (ck_get kk_Mc_guess 0 rfl) ?_
      refine wp_cS1i (ck_get kk_Mc_guess 1 rfl) ml_Mc_103 (by omega) (Nat.le_of_ble_eq_true rfl) (Ci.to (c_isTenant) ?_)
      rintro _ M1 ⟨rfl, eqm1⟩
      obtain rfl := eqm1.symm
      refine wp_if_eq (t := 33) (ck_get kk_Mc_guess 2 rfl) (by decide) (fun hc4 => ?_) (fun hc4 => ?_)
      · refine wp_iconst (v := (-1)) (by decide) (ck_get kk_Mc_guess 15 rfl) ?_
        refine wp_ireturn (ck_get kk_Mc_guess 16 rfl) rfl rfl ⟨_, rfl, ?_⟩
        exact ⟨rfl, hC', MSame.refl _⟩
      · refine wp_iload_n rfl (ck_get kk_Mc_guess 3 rfl) ?_
        refine wp_cS1i (ck_get kk_Mc_guess 4 rfl) ml_Mc_275 (by omega) (Nat.le_of_ble_eq_true rfl) (Ci.to (c_isSize) ?_)
        rintro _ M1 ⟨rfl, eqm1⟩
        obtain rfl := eqm1.symm
        refine wp_if_eq (t := 33) (ck_get kk_Mc_guess 5 rfl) (by decide) (fun hc11 => ?_) (fun hc11 => ?_)
        · refine wp_iconst (v := (-1)) (by decide) (ck_get kk_Mc_guess 15 rfl) ?_
          refine wp_ireturn (ck_get kk_Mc_guess 16 rfl) rfl rfl ⟨_, rfl, ?_⟩
          exact ⟨rfl, hC', MSame.refl _⟩
        · exact absurd ⟨bI_1 hc4, bI_1 hc11⟩ hin
    · skip
      obtain ⟨hM, hSM, hUM, hIM, hDM, hPM, hNM, hBM⟩ := id h
      have to0 := hM.1
      refine cw_entry 4 pf_Mo_guess rfl ?_
      refine wp_iload_n rfl (ck_get kk_Mo_guess 0 rfl) ?_
      refine wp_cS1i (ck_get kk_Mo_guess 1 rfl) ml_Mo_152 (by omega) (Nat.le_of_ble_eq_true rfl) (Ci.to (m_isTenant) ?_)
      rintro _ M1 ⟨rfl, eqm1⟩
      obtain rfl := eqm1.symm
      refine wp_if_eq (t := 14) (ck_get kk_Mo_guess 2 rfl) (by decide) (fun hc4 => ?_) (fun hc4 => ?_)
      · refine wp_iconst (v := (-1)) (by decide) (ck_get kk_Mo_guess 6 rfl) ?_
        refine wp_ireturn (ck_get kk_Mo_guess 7 rfl) rfl rfl ⟨_, rfl, ?_⟩
        exact ⟨rfl, h, CSame.refl _⟩
      · refine wp_iload_n rfl (ck_get kk_Mo_guess 3 rfl) ?_
        refine wp_cS1i (ck_get kk_Mo_guess 4 rfl) ml_Mo_404 (by omega) (Nat.le_of_ble_eq_true rfl) (Ci.to (m_isSize) ?_)
        rintro _ M1 ⟨rfl, eqm1⟩
        obtain rfl := eqm1.symm
        refine wp_if_ne (t := 16) (ck_get kk_Mo_guess 5 rfl) (by decide) (fun hc11 => ?_) (fun hc11 => ?_)
        · exact absurd ⟨bI_1 hc4, bI_1 hc11⟩ hin
        · refine wp_iconst (v := (-1)) (by decide) (ck_get kk_Mo_guess 6 rfl) ?_
          refine wp_ireturn (ck_get kk_Mo_guess 7 rfl) rfl rfl ⟨_, rfl, ?_⟩
          exact ⟨rfl, h, CSame.refl _⟩
end MIS
