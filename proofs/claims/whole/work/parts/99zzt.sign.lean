/-! ===== sign ===== -/
section SGN
variable {g : Gl} {M : Mem}
theorem ch_ok : ∀ c : Fin 128, ((nI c.val &&& nI 255).toUInt32 % 65536).toInt32 = nI c.val ∧ narrow .char (.int (nI c.val)) = .int (nI c.val) := by decide +kernel
theorem c_asCharAt {b v k cnt cap ch : Nat} {fv : Value} (hv : FmtOK g fv) (hT : mT M b = (12, 0)) (hR : mR M b 0 = some v) (hTv : mT M v = (22, cap)) (h1 : mI M b 1 = 0) (h3 : mI M b 3 = nI cnt) (hc : cnt ≤ cap) (hcap : cap ≤ 1000) (hk : k < cnt) (hch : mI M v k = nI ch) (hc8 : ch < 128) : Ci g Y_As_charAt 2 [.ref b, .int (nI k)] M (fun x M2 => x = nI ch ∧ M2 = M) := by
  have e1 : ((nI ch &&& nI 255).toUInt32 % 65536).toInt32 = nI ch := (ch_ok ⟨ch, hc8⟩).1
  have e2 : narrow .char (.int (nI ch)) = .int (nI ch) := (ch_ok ⟨ch, hc8⟩).2
  refine cw_entry 3 pf_As_charAt rfl ?_
  refine wp_aload_n rfl (ck_get kk_As_charAt 0 rfl) ?_
  refine wp_getIv (v := (0 : Int32)) (ck_get kk_As_charAt 1 rfl) fl_As_22 (by assumption) (h1) ?_
  refine wp_istore_n (ck_get kk_As_charAt 2 rfl) (by decide) rfl ?_
  refine wp_aload_n rfl (ck_get kk_As_charAt 3 rfl) ?_
  refine wp_getR (ck_get kk_As_charAt 4 rfl) fl_As_15 (by assumption) (by assumption) ?_
  refine wp_astore_n (ck_get kk_As_charAt 5 rfl) (by decide) rfl ?_
  refine wp_aload_n rfl (ck_get kk_As_charAt 6 rfl) ?_
  refine wp_getIv (v := nI cnt) (ck_get kk_As_charAt 7 rfl) fl_As_79 (by assumption) (h3) ?_
  refine wp_aload_n rfl (ck_get kk_As_charAt 8 rfl) ?_
  refine wp_alen (ck_get kk_As_charAt 9 rfl) (by assumption) ?_
  refine wp_iload_n rfl (ck_get kk_As_charAt 10 rfl) ?_
  refine wp_ishr (ck_get kk_As_charAt 11 rfl) ?_
  rw [sc_shr0' (by omega)]
  refine wp_cS2i (ck_get kk_As_charAt 12 rfl) ml_As_138 (by omega) (Nat.le_of_ble_eq_true rfl) (Ci.to (c_min (a := cnt) (b := cap) (by omega) (by omega)) ?_)
  rintro _ M1 ⟨rfl, eqm1⟩
  obtain rfl := eqm1.symm
  refine wp_istore (ck_get kk_As_charAt 13 rfl) (by decide) rfl ?_
  refine wp_iload_n rfl (ck_get kk_As_charAt 14 rfl) ?_
  refine wp_iload rfl (ck_get kk_As_charAt 15 rfl) ?_
  refine wp_cS2v (ck_get kk_As_charAt 16 rfl) ml_As_144 (by omega) (Nat.le_of_ble_eq_true rfl) (Cv.to (s_checkIndex hv (a := k) (b := min cnt cap) (by omega) (by omega)) ?_)
  rintro M1 w1
  subst w1
  refine wp_iload_n rfl (ck_get kk_As_charAt 17 rfl) ?_
  refine wp_if_ne (t := 42) (ck_get kk_As_charAt 18 rfl) (by decide) (fun hc30 => ?_) (fun hc30 => ?_)
  · exact absurd rfl hc30
  · refine wp_aload_n rfl (ck_get kk_As_charAt 19 rfl) ?_
    refine wp_iload_n rfl (ck_get kk_As_charAt 20 rfl) ?_
    first | refine wp_bald (ck_get kk_As_charAt 21 rfl) (by assumption) (ixk_nI (k := k) (by omega) (by omega)) ?_ | refine wp_zald (ck_get kk_As_charAt 21 rfl) (by assumption) (ixk_nI (k := k) (by omega) (by omega)) ?_
    rw [hch]
    refine wp_sipush (v := nI 255) (by decide) (ck_get kk_As_charAt 22 rfl) ?_
    refine wp_iand (ck_get kk_As_charAt 23 rfl) ?_
    refine wp_i2c (ck_get kk_As_charAt 24 rfl) ?_
    rw [e1]
    refine wp_ireturn (ck_get kk_As_charAt 25 rfl) rfl e2 ⟨_, rfl, ?_⟩
    exact ⟨rfl, rfl⟩
theorem c_sbCharAt {b v k cnt cap ch : Nat} {fv : Value} (hv : FmtOK g fv) (hT : mT M b = (12, 0)) (hR : mR M b 0 = some v) (hTv : mT M v = (22, cap)) (h1 : mI M b 1 = 0) (h3 : mI M b 3 = nI cnt) (hc : cnt ≤ cap) (hcap : cap ≤ 1000) (hk : k < cnt) (hch : mI M v k = nI ch) (hc8 : ch < 128) : Ci g Y_Sb_charAt 3 [.ref b, .int (nI k)] M (fun x M2 => x = nI ch ∧ M2 = M) := by
  have e2 : narrow .char (.int (nI ch)) = .int (nI ch) := (ch_ok ⟨ch, hc8⟩).2
  refine cw_entry 0 pf_Sb_charAt rfl ?_
  refine wp_aload_n rfl (ck_get kk_Sb_charAt 0 rfl) ?_
  refine wp_iload_n rfl (ck_get kk_Sb_charAt 1 rfl) ?_
  refine wp_cZ1i (ck_get kk_Sb_charAt 2 rfl) ml_Sb_329 (by omega) (Nat.le_of_ble_eq_true rfl) cl12 hT (Ci.to (c_asCharAt hv hT hR hTv h1 h3 hc hcap hk hch hc8) ?_)
  rintro _ M1 ⟨rfl, eqm1⟩
  obtain rfl := eqm1.symm
  refine wp_ireturn (ck_get kk_Sb_charAt 3 rfl) rfl e2 ⟨_, rfl, ?_⟩
  exact ⟨rfl, rfl⟩
theorem b_sign {a : Int32} {fv : Value} (hv : FmtOK g fv) : Both g Y_Mc_sign Y_Mo_sign [.int a] := by
  intro c z hc hO
  have hl := hO.2.2.2.2.2.1
  have hg := hO.2.2.2.2.2.2
  rcases i32c a (zG z).length (by omega) with ⟨k, hk, rfl⟩ | ⟨-, e⟩
  · have hch := hg k hk
    refine ⟨nI ((zG z).getD k 0), z, hO.le (by omega), fun M h => ?_, fun M h => ?_⟩
    · have hCR := h
      have hC' := h.le (Nat.le_succ c)
      obtain ⟨pf, pg, hL, hSC, hTC, hIC, hDC, hPC, hNC, hBC, hZC⟩ := h
      obtain ⟨t0, ⟨r00, hSh⟩, ⟨r01, hTr⟩, ⟨r02, hTg⟩, ⟨r03, hWa⟩, ⟨r04, hWp⟩, ⟨r06, t921, r921a, r921b, hS0, hS1⟩, ⟨r07, t922⟩, ⟨r08, t923⟩, ⟨r010, hPa⟩, ⟨r011, hJu⟩, ⟨r012, hRe⟩, ⟨r013, hCu⟩, ⟨r014, hDe⟩, ⟨r018, t959⟩, hPf⟩ := id hL
      have t1 : mT M 1 = (6, 0) := hSh.1
      have r10 : mR M 1 0 = some 2 := hSh.2.1
      have hW2 : WoAt (mT M) (mR M) 2 := hSh.2.2.1
      have t2 : mT M 2 = (9, 0) := hW2.1
      have r20 : mR M 2 0 = some 3 := hW2.2.1
      have t3 : mT M 3 = (24, 4) := hW2.2.2.1
      have t31 : mT M 31 = (8, 0) := hTr.1
      have t924 : mT M 924 = (3, 0) := hPa.1
      have t934 : mT M 934 = (2, 0) := hJu.1
      have t938 : mT M 938 = (5, 0) := hRe.1
      have t947 : mT M 947 = (0, 0) := hCu.1
      have t952 : mT M 952 = (1, 0) := hDe.1
      obtain ⟨v, cap, g1, g2, g3, g4, g5, g6, g7, g8⟩ := hBC
      have rs : mR M 947 2 = some 949 := hCu.2.2.2.1
      have ts : mT M 949 = (12, 0) := hCu.2.2.2.2.1
      refine cw_entry 0 pf_Mc_sign rfl ?_
      refine wp_iload_n rfl (ck_get kk_Mc_sign 0 rfl) ?_
      first | refine wp_if_ltN (t := 32) (ck_get kk_Mc_sign 1 rfl) (by decide) (by omega) (fun hc1 => ?_) (fun hc1 => ?_) | refine wp_if_lt (t := 32) (ck_get kk_Mc_sign 1 rfl) (by decide) (fun hc1 => ?_) (fun hc1 => ?_)
      · exact hc1.elim
      · refine wp_iload_n rfl (ck_get kk_Mc_sign 2 rfl) ?_
        refine wp_aload_n rfl (ck_get kk_Mc_sign 3 rfl) ?_
        refine wp_getR (ck_get kk_Mc_sign 4 rfl) fl_Mc_80 (by assumption) (by assumption) ?_
        refine wp_getR (ck_get kk_Mc_sign 5 rfl) fl_Mc_301 (by assumption) (by assumption) ?_
        refine wp_cV0i (ck_get kk_Mc_sign 6 rfl) ml_Mc_305 (by omega) (Nat.le_of_ble_eq_true rfl) (by assumption) (Ci.to (c_sbLength (by exact ts)) ?_)
        rintro x M1 ⟨w1, w2⟩
        rw [g5] at w1
        obtain rfl := w2.symm
        subst w1
        first | refine wp_icmp_geN (t := 32) (ck_get kk_Mc_sign 7 rfl) (by decide) (by omega) (by omega) (fun hc15 => ?_) (fun hc15 => ?_) | refine wp_icmp_ge (t := 32) (ck_get kk_Mc_sign 7 rfl) (by decide) (fun hc15 => ?_) (fun hc15 => ?_)
        · omega
        · refine wp_aload_n rfl (ck_get kk_Mc_sign 8 rfl) ?_
          refine wp_getR (ck_get kk_Mc_sign 9 rfl) fl_Mc_80 (by assumption) (by assumption) ?_
          refine wp_getR (ck_get kk_Mc_sign 10 rfl) fl_Mc_301 (by assumption) (by assumption) ?_
          refine wp_iload_n rfl (ck_get kk_Mc_sign 11 rfl) ?_
          refine wp_cV1i (ck_get kk_Mc_sign 12 rfl) ml_Mc_310 (by omega) (Nat.le_of_ble_eq_true rfl) (by assumption) (Ci.to (c_sbCharAt hv ts g1 g2 g4 g5 g6 g7.1 hk (g8 k hk) hch) ?_)
          rintro _ M1 ⟨rfl, eqm1⟩
          obtain rfl := eqm1.symm
          refine wp_goto (t := 33) (ck_get kk_Mc_sign 13 rfl) (by decide) ?_
          refine wp_ireturn (ck_get kk_Mc_sign 15 rfl) rfl rfl ⟨_, rfl, ?_⟩
          exact ⟨rfl, hC', MSame.refl _⟩
    · skip
      obtain ⟨hM, hSM, hUM, hIM, hDM, hPM, hNM, hBM⟩ := id h
      have to0 := hM.1
      have rfreported := MoAt.r hM 22 rfl
      have tfreported := MoAt.t hM 22 rfl
      have hin1 : inB (nI k) ((zG z).length - 1 + 1) = true := inB_nI (by omega) (by omega)
      refine cw_entry 0 pf_Mo_sign rfl ?_
      refine wp_iload_n rfl (ck_get kk_Mo_sign 0 rfl) ?_
      refine wp_iconst (v := nI 0) (by decide) (ck_get kk_Mo_sign 1 rfl) ?_
      refine wp_aload_n rfl (ck_get kk_Mo_sign 2 rfl) ?_
      refine wp_getIv (v := nI (zG z).length) (ck_get kk_Mo_sign 3 rfl) fl_Mo_427 (by assumption) (hBM.1) ?_
      refine wp_iconst (v := nI 1) (by decide) (ck_get kk_Mo_sign 4 rfl) ?_
      first | refine wp_isubN (ck_get kk_Mo_sign 5 rfl) (by omega) ?_ | refine wp_isub (ck_get kk_Mo_sign 5 rfl) ?_
      refine wp_cS3i (ck_get kk_Mo_sign 6 rfl) ml_Mo_18 (by omega) (Nat.le_of_ble_eq_true rfl) (Ci.to (m_lies (hi := (zG z).length - 1) (by omega)) ?_)
      rintro _ M1 ⟨rfl, eqm1⟩
      obtain rfl := eqm1.symm
      rw [hin1]
      first | refine wp_if_eqN (t := 23) (ck_get kk_Mo_sign 7 rfl) (by decide) (by omega) (fun hc11 => ?_) (fun hc11 => ?_) | refine wp_if_eq (t := 23) (ck_get kk_Mo_sign 7 rfl) (by decide) (fun hc11 => ?_) (fun hc11 => ?_)
      · exact absurd hc11 (by decide)
      · refine wp_aload_n rfl (ck_get kk_Mo_sign 8 rfl) ?_
        refine wp_getR (ck_get kk_Mo_sign 9 rfl) fl_Mo_97 (by assumption) (by assumption) ?_
        refine wp_iload_n rfl (ck_get kk_Mo_sign 10 rfl) ?_
        first | refine wp_bald (ck_get kk_Mo_sign 11 rfl) (by assumption) (ixk_nI (k := k) (by omega) (by omega)) ?_ | refine wp_zald (ck_get kk_Mo_sign 11 rfl) (by assumption) (ixk_nI (k := k) (by omega) (by omega)) ?_
        rw [hBM.2 k hk]
        refine wp_goto (t := 24) (ck_get kk_Mo_sign 12 rfl) (by decide) ?_
        refine wp_ireturn (ck_get kk_Mo_sign 14 rfl) rfl rfl ⟨_, rfl, ?_⟩
        exact ⟨rfl, h, CSame.refl _⟩
  · have z0 : (0 : Int32).toInt = 0 := by decide
    refine ⟨-1, z, hO.le (by omega), fun M h => ?_, fun M h => ?_⟩
    · have hCR := h
      have hC' := h.le (Nat.le_succ c)
      obtain ⟨pf, pg, hL, hSC, hTC, hIC, hDC, hPC, hNC, hBC, hZC⟩ := h
      obtain ⟨t0, ⟨r00, hSh⟩, ⟨r01, hTr⟩, ⟨r02, hTg⟩, ⟨r03, hWa⟩, ⟨r04, hWp⟩, ⟨r06, t921, r921a, r921b, hS0, hS1⟩, ⟨r07, t922⟩, ⟨r08, t923⟩, ⟨r010, hPa⟩, ⟨r011, hJu⟩, ⟨r012, hRe⟩, ⟨r013, hCu⟩, ⟨r014, hDe⟩, ⟨r018, t959⟩, hPf⟩ := id hL
      have t1 : mT M 1 = (6, 0) := hSh.1
      have r10 : mR M 1 0 = some 2 := hSh.2.1
      have hW2 : WoAt (mT M) (mR M) 2 := hSh.2.2.1
      have t2 : mT M 2 = (9, 0) := hW2.1
      have r20 : mR M 2 0 = some 3 := hW2.2.1
      have t3 : mT M 3 = (24, 4) := hW2.2.2.1
      have t31 : mT M 31 = (8, 0) := hTr.1
      have t924 : mT M 924 = (3, 0) := hPa.1
      have t934 : mT M 934 = (2, 0) := hJu.1
      have t938 : mT M 938 = (5, 0) := hRe.1
      have t947 : mT M 947 = (0, 0) := hCu.1
      have t952 : mT M 952 = (1, 0) := hDe.1
      obtain ⟨v, cap, g1, g2, g3, g4, g5, g6, g7, g8⟩ := hBC
      have rs : mR M 947 2 = some 949 := hCu.2.2.2.1
      have ts : mT M 949 = (12, 0) := hCu.2.2.2.2.1
      refine cw_entry 0 pf_Mc_sign rfl ?_
      refine wp_iload_n rfl (ck_get kk_Mc_sign 0 rfl) ?_
      refine wp_if_lt (t := 32) (ck_get kk_Mc_sign 1 rfl) (by decide) (fun hc1 => ?_) (fun hc1 => ?_)
      · refine wp_iconst (v := (-1)) (by decide) (ck_get kk_Mc_sign 14 rfl) ?_
        refine wp_ireturn (ck_get kk_Mc_sign 15 rfl) rfl rfl ⟨_, rfl, ?_⟩
        exact ⟨rfl, hC', MSame.refl _⟩
      · refine wp_iload_n rfl (ck_get kk_Mc_sign 2 rfl) ?_
        refine wp_aload_n rfl (ck_get kk_Mc_sign 3 rfl) ?_
        refine wp_getR (ck_get kk_Mc_sign 4 rfl) fl_Mc_80 (by assumption) (by assumption) ?_
        refine wp_getR (ck_get kk_Mc_sign 5 rfl) fl_Mc_301 (by assumption) (by assumption) ?_
        refine wp_cV0i (ck_get kk_Mc_sign 6 rfl) ml_Mc_305 (by omega) (Nat.le_of_ble_eq_true rfl) (by assumption) (Ci.to (c_sbLength (by exact ts)) ?_)
        rintro x M1 ⟨w1, w2⟩
        rw [g5] at w1
        obtain rfl := w2.symm
        subst w1
        refine wp_icmp_ge (t := 32) (ck_get kk_Mc_sign 7 rfl) (by decide) (fun hc15 => ?_) (fun hc15 => ?_)
        · refine wp_iconst (v := (-1)) (by decide) (ck_get kk_Mc_sign 14 rfl) ?_
          refine wp_ireturn (ck_get kk_Mc_sign 15 rfl) rfl rfl ⟨_, rfl, ?_⟩
          exact ⟨rfl, hC', MSame.refl _⟩
        · exfalso
          have q1 := mt Int32.lt_iff_toInt_lt.mpr hc1
          have q2 := mt Int32.le_iff_toInt_le.mpr hc15
          rw [nI_toInt (by omega)] at q2
          omega
    · skip
      obtain ⟨hM, hSM, hUM, hIM, hDM, hPM, hNM, hBM⟩ := id h
      have to0 := hM.1
      have rfreported := MoAt.r hM 22 rfl
      have tfreported := MoAt.t hM 22 rfl
      refine cw_entry 0 pf_Mo_sign rfl ?_
      refine wp_iload_n rfl (ck_get kk_Mo_sign 0 rfl) ?_
      refine wp_iconst (v := nI 0) (by decide) (ck_get kk_Mo_sign 1 rfl) ?_
      refine wp_aload_n rfl (ck_get kk_Mo_sign 2 rfl) ?_
      refine wp_getIv (v := nI (zG z).length) (ck_get kk_Mo_sign 3 rfl) fl_Mo_427 (by assumption) (hBM.1) ?_
      refine wp_iconst (v := nI 1) (by decide) (ck_get kk_Mo_sign 4 rfl) ?_
      refine wp_isub (ck_get kk_Mo_sign 5 rfl) ?_
      refine wp_cS3i (ck_get kk_Mo_sign 6 rfl) ml_Mo_18 (by omega) (Nat.le_of_ble_eq_true rfl) (Ci.to (m_liesG) ?_)
      rintro _ M1 ⟨rfl, eqm1⟩
      obtain rfl := eqm1.symm
      refine wp_if_eq (t := 23) (ck_get kk_Mo_sign 7 rfl) (by decide) (fun hc11 => ?_) (fun hc11 => ?_)
      · refine wp_iconst (v := (-1)) (by decide) (ck_get kk_Mo_sign 13 rfl) ?_
        refine wp_ireturn (ck_get kk_Mo_sign 14 rfl) rfl rfl ⟨_, rfl, ?_⟩
        exact ⟨rfl, h, CSame.refl _⟩
      · exfalso
        cases q : decide (nI 0 ≤ a ∧ a ≤ nI (zG z).length - nI 1) with
        | false => rw [q] at hc11; exact absurd rfl hc11
        | true =>
          have q3 := of_decide_eq_true q
          have q1 := Int32.le_iff_toInt_le.mp q3.1
          have q2 := Int32.le_iff_toInt_le.mp q3.2
          rw [pk_sub_toInt (by omega) (by omega)] at q2
          rw [nI_toInt (by omega)] at q1
          omega
end SGN
