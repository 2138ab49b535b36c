/-! ===== force, compare, seen ===== -/
section FRC
variable {g : Gl} {M : Mem}
def lqB (ln : Nat) (q : Int32) : Bool := decide (-1 ≤ q.toInt ∧ q.toInt < ln)
theorem lqB_ok {ln : Nat} {q : Int32} (h : ln ≤ 6) : lqB ln q = true ↔ LqOK ln q := by
  unfold lqB
  rw [decide_eq_true_eq]
  have m1 : (-1 : Int32).toInt = -1 := by decide
  constructor
  · intro ⟨a, b⟩
    by_cases c : q.toInt = -1
    · exact Or.inl (Int32.toInt_inj.mp (c.trans m1.symm))
    · have hq : ¬ q < 0 := fun x => by
        have x1 := Int32.lt_iff_toInt_lt.mp x
        have z0 : (0 : Int32).toInt = 0 := by decide
        omega
      obtain ⟨j, hj, rfl⟩ := nI_of hq
      rw [nI_toInt hj] at b
      exact Or.inr ⟨j, by omega, rfl⟩
  · rintro (rfl | ⟨t, ht, rfl⟩)
    · rw [m1]; omega
    · rw [nI_toInt (by omega)]; omega
theorem c_isLaw {ln : Nat} {q : Int32} (hln : ln ≤ 6) (t0 : mT M 0 = (10, 0)) (r00 : mR M 0 0 = some 1) (t1 : mT M 1 = (6, 0)) (e9 : mI M 1 9 = nI ln) : Ci g Y_Mc_isLawOrNone 0 [.ref 0, .int q] M (fun x M2 => x = bI (lqB ln q) ∧ M2 = M) := by
  have m1 : (-1 : Int32).toInt = -1 := by decide
  refine cw_entry 0 pf_Mc_isLawOrNone rfl ?_
  refine wp_iload_n rfl (ck_get kk_Mc_isLawOrNone 0 rfl) ?_
  refine wp_iconst (v := (-1)) (by decide) (ck_get kk_Mc_isLawOrNone 1 rfl) ?_
  refine wp_icmp_lt (t := 20) (ck_get kk_Mc_isLawOrNone 2 rfl) (by decide) (fun hc2 => ?_) (fun hc2 => ?_)
  · refine wp_iconst (v := nI 0) (by decide) (ck_get kk_Mc_isLawOrNone 10 rfl) ?_
    refine wp_ireturn (ck_get kk_Mc_isLawOrNone 11 rfl) rfl rfl ⟨_, rfl, ?_⟩
    refine ⟨?_, rfl⟩
    have a := Int32.lt_iff_toInt_lt.mp hc2
    unfold lqB; rw [decide_eq_false (by omega)]; rfl
  · refine wp_iload_n rfl (ck_get kk_Mc_isLawOrNone 3 rfl) ?_
    refine wp_aload_n rfl (ck_get kk_Mc_isLawOrNone 4 rfl) ?_
    refine wp_getR (ck_get kk_Mc_isLawOrNone 5 rfl) fl_Mc_12 (by assumption) (by assumption) ?_
    first | refine wp_getIv (ck_get kk_Mc_isLawOrNone 6 rfl) fl_Mc_194 (by assumption) (by assumption) ?_ | refine wp_getI (ck_get kk_Mc_isLawOrNone 6 rfl) fl_Mc_194 (by assumption) ?_
    refine wp_icmp_ge (t := 20) (ck_get kk_Mc_isLawOrNone 7 rfl) (by decide) (fun hc13 => ?_) (fun hc13 => ?_)
    · refine wp_iconst (v := nI 0) (by decide) (ck_get kk_Mc_isLawOrNone 10 rfl) ?_
      refine wp_ireturn (ck_get kk_Mc_isLawOrNone 11 rfl) rfl rfl ⟨_, rfl, ?_⟩
      refine ⟨?_, rfl⟩
      have a := Int32.le_iff_toInt_le.mp hc13
      rw [nI_toInt (by omega)] at a
      unfold lqB; rw [decide_eq_false (by omega)]; rfl
    · refine wp_iconst (v := nI 1) (by decide) (ck_get kk_Mc_isLawOrNone 8 rfl) ?_
      refine wp_goto (t := 21) (ck_get kk_Mc_isLawOrNone 9 rfl) (by decide) ?_
      refine wp_ireturn (ck_get kk_Mc_isLawOrNone 11 rfl) rfl rfl ⟨_, rfl, ?_⟩
      refine ⟨?_, rfl⟩
      have a := mt Int32.lt_iff_toInt_lt.mpr hc2
      have b := mt Int32.le_iff_toInt_le.mpr hc13
      rw [nI_toInt (by omega)] at b
      unfold lqB; rw [decide_eq_true (by omega)]; rfl
theorem m_isLaw {ln : Nat} {q : Int32} (hln : ln ≤ 6) (hM : MoAt (mT M) (mR M) 1020) (e : mI M (1020 + 2) 386 = nI ln) : Ci g Y_Mo_isLaw 1 [.ref 1020, .int q] M (fun x M2 => x = bI (lqB ln q) ∧ M2 = M) := by
  have m1 : (-1 : Int32).toInt = -1 := by decide
  have to0 := hM.1
  have rfkept := MoAt.r hM 1 rfl
  have tfkept := MoAt.t hM 1 rfl
  refine cw_entry 0 pf_Mo_isLaw rfl ?_
  refine wp_iload_n rfl (ck_get kk_Mo_isLaw 0 rfl) ?_
  refine wp_iconst (v := (-1)) (by decide) (ck_get kk_Mo_isLaw 1 rfl) ?_
  refine wp_aload_n rfl (ck_get kk_Mo_isLaw 2 rfl) ?_
  refine wp_getR (ck_get kk_Mo_isLaw 3 rfl) fl_Mo_28 (by assumption) (by assumption) ?_
  refine wp_sipush (v := nI 386) (by decide) (ck_get kk_Mo_isLaw 4 rfl) ?_
  refine wp_ialdv (v := nI ln) (ck_get kk_Mo_isLaw 5 rfl) (by assumption) (ixk_nI (k := 386) (by omega) (by omega)) (e) ?_
  refine wp_iconst (v := nI 1) (by decide) (ck_get kk_Mo_isLaw 6 rfl) ?_
  refine wp_isub (ck_get kk_Mo_isLaw 7 rfl) ?_
  refine wp_cS3i (ck_get kk_Mo_isLaw 8 rfl) ml_Mo_18 (by omega) (Nat.le_of_ble_eq_true rfl) (Ci.to (m_liesG) ?_)
  rintro _ M1 ⟨rfl, eqm1⟩
  obtain rfl := eqm1.symm
  refine wp_ireturn (ck_get kk_Mo_isLaw 9 rfl) rfl (bI_ok _) ⟨_, rfl, ?_⟩
  refine ⟨?_, rfl⟩
  unfold lqB
  congr 1
  have s := pk_sub_toInt (a := ln) (b := 1) (by omega) (by omega)
  refine decide_eq_decide.mpr ⟨fun ⟨a, b⟩ => ?_, fun ⟨a, b⟩ => ⟨Int32.le_iff_toInt_le.mpr (by omega), Int32.le_iff_toInt_le.mpr (by omega)⟩⟩
  have a1 := Int32.le_iff_toInt_le.mp a
  have b1 := Int32.le_iff_toInt_le.mp b
  omega
theorem b_force {q : Int32} : Both g Y_Mc_force Y_Mo_force [.int q] := by
  intro c z hc hO
  have hln := hO.1.2.2.2.2.2.2.2.2.1
  by_cases hq : lqB (sLn (zS z)) q = true
  · have hqo := (lqB_ok hln).mp hq
    refine ⟨sFo (zS z), zGood ((sWo (zS z), (zS z).2.1, (zS z).2.2.1, (zS z).2.2.2.1, q), z.2), ZOK.good ?_, fun M h => ?_, fun M h => ?_⟩
    · obtain ⟨⟨o1, o2, o3, o4, o5, o6, o7, o8, o9, o10, o11⟩, oR⟩ := hO.le (Nat.le_succ c)
      exact ⟨⟨o1, o2, o3, o4, o5, o6, o7, o8, o9, o10, hqo⟩, oR⟩
    · have hCR := h
      have hC' := h.le (Nat.le_succ c)
      obtain ⟨pf, pg, hL, hSC, hTC, hIC, hDC, hPC, hNC, hBC, hZC⟩ := h
      obtain ⟨t0, ⟨r00, hSh⟩, ⟨r01, hTr⟩, ⟨r02, hTg⟩, ⟨r03, hWa⟩, ⟨r04, hWp⟩, ⟨r06, t921, r921a, r921b, hS0, hS1⟩, ⟨r07, t922⟩, ⟨r08, t923⟩, ⟨r010, hPa⟩, ⟨r011, hJu⟩, ⟨r012, hRe⟩, ⟨r013, hCu⟩, ⟨r014, hDe⟩, ⟨r018, t959⟩, hPf⟩ := id hL
      have t1 : mT M 1 = (6, 0) := hSh.1
      have r10 : mR M 1 0 = some 2 := hSh.2.1
      have hW2 : WoAt (mT M) (mR M) 2 := hSh.2.2.1
      have t2 : mT M 2 = (9, 0) := hW2.1
      have r20 : mR M 2 0 = some 3 := hW2.2.1
      have t3 : mT M 3 = (24, 4) := hW2.2.2.1
      have t31 : mT M 31 = (8, 0) := hTr.1
      have t924 : mT M 924 = (3, 0) := hPa.1
      have t934 : mT M 934 = (2, 0) := hJu.1
      have t938 : mT M 938 = (5, 0) := hRe.1
      have t947 : mT M 947 = (0, 0) := hCu.1
      have t952 : mT M 952 = (1, 0) := hDe.1
      have e9 := hSC.2.2.2.2.2.2.2.1
      have e10 := hSC.2.2.2.2.2.2.2.2.1
      refine cw_entry 1 pf_Mc_force rfl ?_
      refine wp_aload_n rfl (ck_get kk_Mc_force 0 rfl) ?_
      refine wp_iload_n rfl (ck_get kk_Mc_force 1 rfl) ?_
      refine wp_cV1i (ck_get kk_Mc_force 2 rfl) ml_Mc_261 (by omega) (Nat.le_of_ble_eq_true rfl) (by assumption) (Ci.to (c_isLaw hln t0 r00 t1 e9) ?_)
      rintro _ M1 ⟨rfl, eqm1⟩
      obtain rfl := eqm1.symm
      rw [hq]
      first | refine wp_if_neN (t := 15) (ck_get kk_Mc_force 3 rfl) (by decide) (by omega) (fun hc5 => ?_) (fun hc5 => ?_) | refine wp_if_ne (t := 15) (ck_get kk_Mc_force 3 rfl) (by decide) (fun hc5 => ?_) (fun hc5 => ?_)
      · refine wp_aload_n rfl (ck_get kk_Mc_force 8 rfl) ?_
        refine wp_getR (ck_get kk_Mc_force 9 rfl) fl_Mc_12 (by assumption) (by assumption) ?_
        first | refine wp_getIv (ck_get kk_Mc_force 10 rfl) fl_Mc_151 (by assumption) (by assumption) ?_ | refine wp_getI (ck_get kk_Mc_force 10 rfl) fl_Mc_151 (by assumption) ?_
        refine wp_istore_n (ck_get kk_Mc_force 11 rfl) (by decide) rfl ?_
        refine wp_aload_n rfl (ck_get kk_Mc_force 12 rfl) ?_
        refine wp_getR (ck_get kk_Mc_force 13 rfl) fl_Mc_12 (by assumption) (by assumption) ?_
        refine wp_iload_n rfl (ck_get kk_Mc_force 14 rfl) ?_
        refine wp_putI (ck_get kk_Mc_force 15 rfl) fl_Mc_151 (by decide +kernel) (by assumption) (okI_int _) ?_
        refine wp_aload_n rfl (ck_get kk_Mc_force 16 rfl) ?_
        refine wp_iload_n rfl (ck_get kk_Mc_force 17 rfl) ?_
        refine wp_cV1i (ck_get kk_Mc_force 18 rfl) ml_Mc_185 (by omega) (Nat.le_of_ble_eq_true rfl) (by assumption) (Ci.to (c_accept (pf := pf) (pg := pg) (by exact hL)) ?_)
        rintro x M1 ⟨e1, e2⟩
        refine wp_ireturn (ck_get kk_Mc_force 19 rfl) rfl rfl ⟨_, rfl, ?_⟩
        refine ⟨e1, ?_, ?_⟩
        · rw [e2]
          refine CR.good (hCR.shop (fun x _ a => ⟨up2_o (by omega), rfl⟩) ?_)
          obtain ⟨s1, s2, s3, s4, s5, s6, s7, s8, s9, s10, s11⟩ := hSC
          have hk : HiK (mT M) (mR M) (mI M) (mT M) (mR M) (up2 (mI M) 1 10 q) := HiK.same (fun x hx => up2_o (by omega))
          refine ⟨s1.kept (fun x q1 q2 => ⟨up2_o (by omega), rfl⟩), by rw [up2_k (by omega)]; exact s2, by rw [up2_k (by omega)]; exact s3, by rw [up2_k (by omega)]; exact s4, by rw [up2_k (by omega)]; exact s5, by rw [up2_k (by omega)]; exact s6, fun i hi => by rw [up2_o (by omega), up2_o (by omega)]; exact s7 i hi, by rw [up2_k (by omega)]; exact s8, up2_v, s10.kept rfl hk, fun i hi => ?_⟩
          obtain ⟨p, q1, q2⟩ := s11 i hi
          exact ⟨p, q1, q2.kept hk⟩
        · rw [e2]
          exact (MSame.s (by omega)).trans MSame.ac
      · exact absurd hc5 (by decide)
    · skip
      obtain ⟨hM, hSM, hUM, hIM, hDM, hPM, hNM, hBM⟩ := id h
      have to0 := hM.1
      have rfkept := MoAt.r hM 1 rfl
      have tfkept := MoAt.t hM 1 rfl
      have e386 := hSM.2.2.2.2.2.2.2.1
      have e387 : mI M (1020 + 2) 387 = sFo (zS z) := hSM.2.2.2.2.2.2.2.2.1
      refine cw_entry 1 pf_Mo_force rfl ?_
      refine wp_aload_n rfl (ck_get kk_Mo_force 0 rfl) ?_
      refine wp_iload_n rfl (ck_get kk_Mo_force 1 rfl) ?_
      refine wp_cV1i (ck_get kk_Mo_force 2 rfl) ml_Mo_288 (by omega) (Nat.le_of_ble_eq_true rfl) (by assumption) (Ci.to (m_isLaw hln hM e386) ?_)
      rintro _ M1 ⟨rfl, eqm1⟩
      obtain rfl := eqm1.symm
      rw [hq]
      first | refine wp_if_neN (t := 15) (ck_get kk_Mo_force 3 rfl) (by decide) (by omega) (fun hc5 => ?_) (fun hc5 => ?_) | refine wp_if_ne (t := 15) (ck_get kk_Mo_force 3 rfl) (by decide) (fun hc5 => ?_) (fun hc5 => ?_)
      · refine wp_aload_n rfl (ck_get kk_Mo_force 8 rfl) ?_
        refine wp_getR (ck_get kk_Mo_force 9 rfl) fl_Mo_28 (by assumption) (by assumption) ?_
        refine wp_sipush (v := nI 387) (by decide) (ck_get kk_Mo_force 10 rfl) ?_
        refine wp_ialdv (v := sFo (zS z)) (ck_get kk_Mo_force 11 rfl) (by assumption) (ixk_nI (k := 387) (by omega) (by omega)) (e387) ?_
        refine wp_istore_n (ck_get kk_Mo_force 12 rfl) (by decide) rfl ?_
        refine wp_aload_n rfl (ck_get kk_Mo_force 13 rfl) ?_
        refine wp_getR (ck_get kk_Mo_force 14 rfl) fl_Mo_28 (by assumption) (by assumption) ?_
        refine wp_sipush (v := nI 387) (by decide) (ck_get kk_Mo_force 15 rfl) ?_
        refine wp_iload_n rfl (ck_get kk_Mo_force 16 rfl) ?_
        refine wp_iast (ck_get kk_Mo_force 17 rfl) (by assumption) (ixk_nI (k := 387) (by omega) (by omega)) ?_
        refine wp_aload_n rfl (ck_get kk_Mo_force 18 rfl) ?_
        refine wp_iload_n rfl (ck_get kk_Mo_force 19 rfl) ?_
        refine wp_cV1i (ck_get kk_Mo_force 20 rfl) ml_Mo_14 (by omega) (Nat.le_of_ble_eq_true rfl) (by assumption) (Ci.to (m_good (by exact hM)) ?_)
        rintro x M1 ⟨e1, e2⟩
        refine wp_ireturn (ck_get kk_Mo_force 21 rfl) rfl rfl ⟨_, rfl, ?_⟩
        refine ⟨e1, ?_, ?_⟩
        · rw [e2]
          refine MR.good (h.shop (fun x a => up2_o (by unfold moK at a; omega)) (fun x _ => rfl) (fun k _ => by rw [up2_o (by omega)]) (by rw [up2_o (by omega)]; exact hNM.2.2.2.2.1) ?_)
          obtain ⟨s1, s2, s3, s4, s5, s6, s7, s8, s9, s10⟩ := hSM
          have eK : ∀ y, y ≠ 387 → up2 (mI M) (1020 + 2) 387 q 1022 y = mI M 1022 y := fun y a => up2_k a
          have h6 := hO.1.2.2.2.2.2.2.1
          exact ⟨s1.kept hO.1.1 (fun x a b => eK x (by omega)) (fun x _ _ => rfl), by rw [eK _ (by omega)]; exact s2, fun i hi => by rw [eK _ (by have : i < sSn (zS z) := hi; omega), eK _ (by have : i < sSn (zS z) := hi; omega)]; exact s3 i hi, by rw [eK _ (by omega)]; exact s4, by rw [eK _ (by omega)]; exact s5, by rw [eK _ (by omega)]; exact s6, by rw [eK _ (by omega)]; exact s7, by rw [eK _ (by omega)]; exact s8, up2_v, fun i hi => (s10 i hi).kept (Nat.lt_of_lt_of_le hi (Nat.le_trans hO.1.2.2.2.2.2.2.2.2.1 (by omega))) (fun x a => eK x (by omega)) rfl⟩
        · rw [e2]
          exact (CSame.s (by omega)).trans CSame.gd
      · exact absurd hc5 (by decide)
  · have hq' : lqB (sLn (zS z)) q = false := by simpa using hq
    refine ⟨-2, zBad z 2, (hO.le (Nat.le_succ c)).bad, fun M h => ?_, fun M h => ?_⟩
    · skip
      have hC' := h.le (Nat.le_succ c)
      obtain ⟨pf, pg, hL, hSC, hTC, hIC, hDC, hPC, hNC, hBC, hZC⟩ := h
      obtain ⟨t0, ⟨r00, hSh⟩, ⟨r01, hTr⟩, ⟨r02, hTg⟩, ⟨r03, hWa⟩, ⟨r04, hWp⟩, ⟨r06, t921, r921a, r921b, hS0, hS1⟩, ⟨r07, t922⟩, ⟨r08, t923⟩, ⟨r010, hPa⟩, ⟨r011, hJu⟩, ⟨r012, hRe⟩, ⟨r013, hCu⟩, ⟨r014, hDe⟩, ⟨r018, t959⟩, hPf⟩ := id hL
      have t1 : mT M 1 = (6, 0) := hSh.1
      have r10 : mR M 1 0 = some 2 := hSh.2.1
      have hW2 : WoAt (mT M) (mR M) 2 := hSh.2.2.1
      have t2 : mT M 2 = (9, 0) := hW2.1
      have r20 : mR M 2 0 = some 3 := hW2.2.1
      have t3 : mT M 3 = (24, 4) := hW2.2.2.1
      have t31 : mT M 31 = (8, 0) := hTr.1
      have t924 : mT M 924 = (3, 0) := hPa.1
      have t934 : mT M 934 = (2, 0) := hJu.1
      have t938 : mT M 938 = (5, 0) := hRe.1
      have t947 : mT M 947 = (0, 0) := hCu.1
      have t952 : mT M 952 = (1, 0) := hDe.1
      have e9 := hSC.2.2.2.2.2.2.2.1
      refine cw_entry 1 pf_Mc_force rfl ?_
      refine wp_aload_n rfl (ck_get kk_Mc_force 0 rfl) ?_
      refine wp_iload_n rfl (ck_get kk_Mc_force 1 rfl) ?_
      refine wp_cV1i (ck_get kk_Mc_force 2 rfl) ml_Mc_261 (by omega) (Nat.le_of_ble_eq_true rfl) (by assumption) (Ci.to (c_isLaw hln t0 r00 t1 e9) ?_)
      rintro _ M1 ⟨rfl, eqm1⟩
      obtain rfl := eqm1.symm
      rw [hq']
      first | refine wp_if_neN (t := 15) (ck_get kk_Mc_force 3 rfl) (by decide) (by omega) (fun hc5 => ?_) (fun hc5 => ?_) | refine wp_if_ne (t := 15) (ck_get kk_Mc_force 3 rfl) (by decide) (fun hc5 => ?_) (fun hc5 => ?_)
      · exact absurd (by decide) hc5
      · refine wp_aload_n rfl (ck_get kk_Mc_force 4 rfl) ?_
        refine wp_bipush (v := (-2)) (by decide) (ck_get kk_Mc_force 5 rfl) ?_
        refine wp_cV1i (ck_get kk_Mc_force 6 rfl) ml_Mc_172 (by omega) (Nat.le_of_ble_eq_true rfl) (by assumption) (Ci.to (c_refuse (k := 2) (by decide) (by omega) (by omega) hL) ?_)
        rintro x M1 ⟨e1, e2⟩
        refine wp_ireturn (ck_get kk_Mc_force 7 rfl) rfl rfl ⟨_, rfl, ?_⟩
        exact ⟨e1, by rw [e2]; exact hC'.bad (by omega), by rw [e2]; exact MSame.bd⟩
    · skip
      obtain ⟨hM, hSM, hUM, hIM, hDM, hPM, hNM, hBM⟩ := id h
      have to0 := hM.1
      have e386 := hSM.2.2.2.2.2.2.2.1
      refine cw_entry 1 pf_Mo_force rfl ?_
      refine wp_aload_n rfl (ck_get kk_Mo_force 0 rfl) ?_
      refine wp_iload_n rfl (ck_get kk_Mo_force 1 rfl) ?_
      refine wp_cV1i (ck_get kk_Mo_force 2 rfl) ml_Mo_288 (by omega) (Nat.le_of_ble_eq_true rfl) (by assumption) (Ci.to (m_isLaw hln hM e386) ?_)
      rintro _ M1 ⟨rfl, eqm1⟩
      obtain rfl := eqm1.symm
      rw [hq']
      first | refine wp_if_neN (t := 15) (ck_get kk_Mo_force 3 rfl) (by decide) (by omega) (fun hc5 => ?_) (fun hc5 => ?_) | refine wp_if_ne (t := 15) (ck_get kk_Mo_force 3 rfl) (by decide) (fun hc5 => ?_) (fun hc5 => ?_)
      · exact absurd (by decide) hc5
      · refine wp_aload_n rfl (ck_get kk_Mo_force 4 rfl) ?_
        refine wp_bipush (v := (-2)) (by decide) (ck_get kk_Mo_force 5 rfl) ?_
        refine wp_cV1i (ck_get kk_Mo_force 6 rfl) ml_Mo_146 (by omega) (Nat.le_of_ble_eq_true rfl) (by assumption) (Ci.to (m_refusesV (c := 2) (by decide) hM (by omega)) ?_)
        rintro x M1 ⟨e1, e2⟩
        refine wp_ireturn (ck_get kk_Mo_force 7 rfl) rfl rfl ⟨_, rfl, ?_⟩
        exact ⟨e1, by rw [e2]; exact h.bad (by omega), by rw [e2]; exact CSame.rf⟩
theorem b_compare {q t w : Int32} : Both g Y_Mc_compare Y_Mo_compare [.int q, .int t, .int w] := by
  intro c z hc hO
  have hln := hO.1.2.2.2.2.2.2.2.2.1
  by_cases hin : lqB (sLn (zS z)) q = true ∧ inB t 4 = true ∧ inB w 1000 = true
  · obtain ⟨bq, bt, bw⟩ := hin
    obtain ⟨k, ht, rfl⟩ := inB_t bt (by omega)
    obtain ⟨j, hj, rfl⟩ := inB_t bw (by omega)
    have hqo := (lqB_ok hln).mp bq
    refine ⟨nI (costA (resQ (zS z) q) (sMd (zS z)) (sWo (zS z)) k j), z, hO.le (by omega), fun M h => ?_, fun M h => ?_⟩
    · have hCR := h
      obtain ⟨pv, hlaw, hwg⟩ := c_weighV (g := g) (k := j) h hO ht hqo
      have hC' := h.le (Nat.le_succ c)
      obtain ⟨pf, pg, hL, hSC, hTC, hIC, hDC, hPC, hNC, hBC, hZC⟩ := h
      obtain ⟨t0, ⟨r00, hSh⟩, ⟨r01, hTr⟩, ⟨r02, hTg⟩, ⟨r03, hWa⟩, ⟨r04, hWp⟩, ⟨r06, t921, r921a, r921b, hS0, hS1⟩, ⟨r07, t922⟩, ⟨r08, t923⟩, ⟨r010, hPa⟩, ⟨r011, hJu⟩, ⟨r012, hRe⟩, ⟨r013, hCu⟩, ⟨r014, hDe⟩, ⟨r018, t959⟩, hPf⟩ := id hL
      have t1 : mT M 1 = (6, 0) := hSh.1
      have r10 : mR M 1 0 = some 2 := hSh.2.1
      have hW2 : WoAt (mT M) (mR M) 2 := hSh.2.2.1
      have t2 : mT M 2 = (9, 0) := hW2.1
      have r20 : mR M 2 0 = some 3 := hW2.2.1
      have t3 : mT M 3 = (24, 4) := hW2.2.2.1
      have t31 : mT M 31 = (8, 0) := hTr.1
      have t924 : mT M 924 = (3, 0) := hPa.1
      have t934 : mT M 934 = (2, 0) := hJu.1
      have t938 : mT M 938 = (5, 0) := hRe.1
      have t947 : mT M 947 = (0, 0) := hCu.1
      have t952 : mT M 952 = (1, 0) := hDe.1
      have e9 := hSC.2.2.2.2.2.2.2.1
      refine cw_entry 0 pf_Mc_compare rfl ?_
      refine wp_aload_n rfl (ck_get kk_Mc_compare 0 rfl) ?_
      refine wp_iload_n rfl (ck_get kk_Mc_compare 1 rfl) ?_
      refine wp_cV1i (ck_get kk_Mc_compare 2 rfl) ml_Mc_261 (by omega) (Nat.le_of_ble_eq_true rfl) (by assumption) (Ci.to (c_isLaw hln t0 r00 t1 e9) ?_)
      rintro _ M1 ⟨rfl, eqm1⟩
      obtain rfl := eqm1.symm
      rw [bq]
      first | refine wp_if_eqN (t := 22) (ck_get kk_Mc_compare 3 rfl) (by decide) (by omega) (fun hc5 => ?_) (fun hc5 => ?_) | refine wp_if_eq (t := 22) (ck_get kk_Mc_compare 3 rfl) (by decide) (fun hc5 => ?_) (fun hc5 => ?_)
      · exact absurd hc5 (by decide)
      · refine wp_iload_n rfl (ck_get kk_Mc_compare 4 rfl) ?_
        refine wp_cS1i (ck_get kk_Mc_compare 5 rfl) ml_Mc_103 (by omega) (Nat.le_of_ble_eq_true rfl) (Ci.to (c_isTenant) ?_)
        rintro _ M1 ⟨rfl, eqm1⟩
        obtain rfl := eqm1.symm
        rw [bt]
        first | refine wp_if_eqN (t := 22) (ck_get kk_Mc_compare 6 rfl) (by decide) (by omega) (fun hc12 => ?_) (fun hc12 => ?_) | refine wp_if_eq (t := 22) (ck_get kk_Mc_compare 6 rfl) (by decide) (fun hc12 => ?_) (fun hc12 => ?_)
        · exact absurd hc12 (by decide)
        · refine wp_iload_n rfl (ck_get kk_Mc_compare 7 rfl) ?_
          refine wp_cS1i (ck_get kk_Mc_compare 8 rfl) ml_Mc_134 (by omega) (Nat.le_of_ble_eq_true rfl) (Ci.to (c_isKey) ?_)
          rintro _ M1 ⟨rfl, eqm1⟩
          obtain rfl := eqm1.symm
          rw [bw]
          first | refine wp_if_neN (t := 24) (ck_get kk_Mc_compare 9 rfl) (by decide) (by omega) (fun hc19 => ?_) (fun hc19 => ?_) | refine wp_if_ne (t := 24) (ck_get kk_Mc_compare 9 rfl) (by decide) (fun hc19 => ?_) (fun hc19 => ?_)
          · refine wp_aload_n rfl (ck_get kk_Mc_compare 12 rfl) ?_
            refine wp_getR (ck_get kk_Mc_compare 13 rfl) fl_Mc_66 (by assumption) (by assumption) ?_
            refine wp_aload_n rfl (ck_get kk_Mc_compare 14 rfl) ?_
            refine wp_getR (ck_get kk_Mc_compare 15 rfl) fl_Mc_12 (by assumption) (by assumption) ?_
            refine wp_aload_n rfl (ck_get kk_Mc_compare 16 rfl) ?_
            refine wp_getR (ck_get kk_Mc_compare 17 rfl) fl_Mc_12 (by assumption) (by assumption) ?_
            refine wp_iload_n rfl (ck_get kk_Mc_compare 18 rfl) ?_
            refine wp_cV1a (ck_get kk_Mc_compare 19 rfl) ml_Mc_154 (by omega) (Nat.le_of_ble_eq_true rfl) (by assumption) (Ca.to (hlaw) ?_)
            rintro _ M1 ⟨rfl, rfl⟩
            refine wp_aload_n rfl (ck_get kk_Mc_compare 20 rfl) ?_
            refine wp_getR (ck_get kk_Mc_compare 21 rfl) fl_Mc_12 (by assumption) (by assumption) ?_
            refine wp_getR (ck_get kk_Mc_compare 22 rfl) fl_Mc_107 (by assumption) (by assumption) ?_
            refine wp_iload_n rfl (ck_get kk_Mc_compare 23 rfl) ?_
            refine wp_iload_n rfl (ck_get kk_Mc_compare 24 rfl) ?_
            refine wp_cV5v (ck_get kk_Mc_compare 25 rfl) ml_Mc_158 (by omega) (Nat.le_of_ble_eq_true rfl) (by assumption) (Cv.to (hwg) ?_)
            rintro M2 ⟨I2, J2, rfl, w0, w1, wf⟩
            refine wp_aload_n rfl (ck_get kk_Mc_compare 26 rfl) ?_
            refine wp_getR (ck_get kk_Mc_compare 27 rfl) fl_Mc_66 (by assumption) (by assumption) ?_
            refine wp_getIv (v := nI (costA (resQ (zS z) q) (sMd (zS z)) (sWo (zS z)) k j)) (ck_get kk_Mc_compare 28 rfl) fl_Mc_162 (by assumption) (w0) ?_
            refine wp_ireturn (ck_get kk_Mc_compare 29 rfl) rfl rfl ⟨_, rfl, ?_⟩
            exact ⟨rfl, hCR.ju wf⟩
          · exact absurd hc19 (by decide)
    · skip
      obtain ⟨hM, hSM, hUM, hIM, hDM, hPM, hNM, hBM⟩ := id h
      have to0 := hM.1
      have rfkept := MoAt.r hM 1 rfl
      have tfkept := MoAt.t hM 1 rfl
      have e386 := hSM.2.2.2.2.2.2.2.1
      have e387 : mI M (1020 + 2) 387 = sFo (zS z) := hSM.2.2.2.2.2.2.2.2.1
      have hN := hSM.n hO.1
      obtain ⟨s1, s2, s3, s4, s5, s6, s7, s8, s9, s10⟩ := id hSM
      have eK : ∀ y, y ≠ 387 → up1 (mI M (1020 + 2)) 387 q y = mI M 1022 y := fun y a => up1_ne a
      have hTl : TlR (up1 (mI M (1020 + 2)) 387 q) (resQ (zS z) q) := TlR_of (fun i hi => (s10 i hi).kept (Nat.lt_of_lt_of_le hi (Nat.le_trans hln (by omega))) (fun x a => eK x (by omega)) rfl) hln up1_eq hqo
      have hw1 : MwHas (up1 (mI M (1020 + 2)) 387 q) (mJ M (1020 + 3)) 0 0 (sWo (zS z)) := s1.kept hO.1.1 (fun x a b => eK x (by omega)) (fun x _ _ => rfl)
      have qq := m_costsFor (g := g) (M := M) (t := k) (k := j) (K := up1 (mI M (1020 + 2)) 387 q) (P := mJ M (1020 + 3)) (A := mI M (1020 + 15)) (F := mI M 1020) hM hw1 hO.1.1 ht hj (by rw [eK _ (by omega)]; exact hN.1) hN.2.2.1.2 hTl V0_ok hNM.2.2.2.2.1
      have eM : sI M (1020 + 2) 387 q = wkM M 1020 (up1 (mI M (1020 + 2)) 387 q) (mJ M (1020 + 3)) (mI M (1020 + 15)) (mI M 1020) := by
        conv => lhs; rw [← wk_id (M := M) (o := 1020)]
        rw [wk_sK]
      refine cw_entry 2 pf_Mo_compare rfl ?_
      refine wp_aload_n rfl (ck_get kk_Mo_compare 0 rfl) ?_
      refine wp_iload_n rfl (ck_get kk_Mo_compare 1 rfl) ?_
      refine wp_cV1i (ck_get kk_Mo_compare 2 rfl) ml_Mo_288 (by omega) (Nat.le_of_ble_eq_true rfl) (by assumption) (Ci.to (m_isLaw hln hM e386) ?_)
      rintro _ M1 ⟨rfl, eqm1⟩
      obtain rfl := eqm1.symm
      rw [bq]
      first | refine wp_if_eqN (t := 22) (ck_get kk_Mo_compare 3 rfl) (by decide) (by omega) (fun hc5 => ?_) (fun hc5 => ?_) | refine wp_if_eq (t := 22) (ck_get kk_Mo_compare 3 rfl) (by decide) (fun hc5 => ?_) (fun hc5 => ?_)
      · exact absurd hc5 (by decide)
      · refine wp_iload_n rfl (ck_get kk_Mo_compare 4 rfl) ?_
        refine wp_cS1i (ck_get kk_Mo_compare 5 rfl) ml_Mo_152 (by omega) (Nat.le_of_ble_eq_true rfl) (Ci.to (m_isTenant) ?_)
        rintro _ M1 ⟨rfl, eqm1⟩
        obtain rfl := eqm1.symm
        rw [bt]
        first | refine wp_if_eqN (t := 22) (ck_get kk_Mo_compare 6 rfl) (by decide) (by omega) (fun hc12 => ?_) (fun hc12 => ?_) | refine wp_if_eq (t := 22) (ck_get kk_Mo_compare 6 rfl) (by decide) (fun hc12 => ?_) (fun hc12 => ?_)
        · exact absurd hc12 (by decide)
        · refine wp_iload_n rfl (ck_get kk_Mo_compare 7 rfl) ?_
          refine wp_cS1i (ck_get kk_Mo_compare 8 rfl) ml_Mo_156 (by omega) (Nat.le_of_ble_eq_true rfl) (Ci.to (m_isKey) ?_)
          rintro _ M1 ⟨rfl, eqm1⟩
          obtain rfl := eqm1.symm
          rw [bw]
          first | refine wp_if_neN (t := 24) (ck_get kk_Mo_compare 9 rfl) (by decide) (by omega) (fun hc19 => ?_) (fun hc19 => ?_) | refine wp_if_ne (t := 24) (ck_get kk_Mo_compare 9 rfl) (by decide) (fun hc19 => ?_) (fun hc19 => ?_)
          · refine wp_aload_n rfl (ck_get kk_Mo_compare 12 rfl) ?_
            refine wp_getR (ck_get kk_Mo_compare 13 rfl) fl_Mo_28 (by assumption) (by assumption) ?_
            refine wp_sipush (v := nI 387) (by decide) (ck_get kk_Mo_compare 14 rfl) ?_
            refine wp_ialdv (v := sFo (zS z)) (ck_get kk_Mo_compare 15 rfl) (by assumption) (ixk_nI (k := 387) (by omega) (by omega)) (e387) ?_
            refine wp_istore (ck_get kk_Mo_compare 16 rfl) (by decide) rfl ?_
            refine wp_aload_n rfl (ck_get kk_Mo_compare 17 rfl) ?_
            refine wp_getR (ck_get kk_Mo_compare 18 rfl) fl_Mo_28 (by assumption) (by assumption) ?_
            refine wp_sipush (v := nI 387) (by decide) (ck_get kk_Mo_compare 19 rfl) ?_
            refine wp_iload_n rfl (ck_get kk_Mo_compare 20 rfl) ?_
            refine wp_iast (ck_get kk_Mo_compare 21 rfl) (by assumption) (ixk_nI (k := 387) (by omega) (by omega)) ?_
            rw [eM]
            refine wp_aload_n rfl (ck_get kk_Mo_compare 22 rfl) ?_
            refine wp_iload_n rfl (ck_get kk_Mo_compare 23 rfl) ?_
            refine wp_iload_n rfl (ck_get kk_Mo_compare 24 rfl) ?_
            refine wp_cV2i (ck_get kk_Mo_compare 25 rfl) ml_Mo_166 (by omega) (Nat.le_of_ble_eq_true rfl) (by assumption) (Ci.to (qq) ?_)
            rintro x M1 ⟨e1, A2, F2, e2, e3⟩
            subst e2
            refine wp_istore (ck_get kk_Mo_compare 26 rfl) (by decide) rfl ?_
            refine wp_aload_n rfl (ck_get kk_Mo_compare 27 rfl) ?_
            refine wp_getR (ck_get kk_Mo_compare 28 rfl) fl_Mo_28 (by assumption) (by assumption) ?_
            refine wp_sipush (v := nI 387) (by decide) (ck_get kk_Mo_compare 29 rfl) ?_
            refine wp_iload rfl (ck_get kk_Mo_compare 30 rfl) ?_
            refine wp_iast (ck_get kk_Mo_compare 31 rfl) (by assumption) (ixk_nI (k := 387) (by omega) (by omega)) ?_
            refine wp_iload rfl (ck_get kk_Mo_compare 32 rfl) ?_
            refine wp_ireturn (ck_get kk_Mo_compare 33 rfl) rfl rfl ⟨_, rfl, ?_⟩
            refine ⟨by rw [e1, (resV (resQ_ok _ _) _ k j (md := sMd (zS z))).1], ?_, ?_⟩
            · have e4 : sI (wkM M 1020 (up1 (mI M (1020 + 2)) 387 q) (mJ M (1020 + 3)) A2 F2) (1020 + 2) 387 (sFo (zS z)) = wkM M 1020 (mI M (1020 + 2)) (mJ M (1020 + 3)) A2 F2 := by
                rw [wk_sK, up1_up1, up1_id e387]
              rw [e4]
              exact h.wk (s2 := zS z) hSM (fun k a => e3.1 k (by unfold moW at a; omega)) e3.2
            · rw [wk_sK]
              exact CSame.wk
          · exact absurd hc19 (by decide)
  · refine ⟨-1, z, hO.le (by omega), fun M h => ?_, fun M h => ?_⟩
    · skip
      have hC' := h.le (Nat.le_succ c)
      obtain ⟨pf, pg, hL, hSC, hTC, hIC, hDC, hPC, hNC, hBC, hZC⟩ := h
      obtain ⟨t0, ⟨r00, hSh⟩, ⟨r01, hTr⟩, ⟨r02, hTg⟩, ⟨r03, hWa⟩, ⟨r04, hWp⟩, ⟨r06, t921, r921a, r921b, hS0, hS1⟩, ⟨r07, t922⟩, ⟨r08, t923⟩, ⟨r010, hPa⟩, ⟨r011, hJu⟩, ⟨r012, hRe⟩, ⟨r013, hCu⟩, ⟨r014, hDe⟩, ⟨r018, t959⟩, hPf⟩ := id hL
      have t1 : mT M 1 = (6, 0) := hSh.1
      have r10 : mR M 1 0 = some 2 := hSh.2.1
      have hW2 : WoAt (mT M) (mR M) 2 := hSh.2.2.1
      have t2 : mT M 2 = (9, 0) := hW2.1
      have r20 : mR M 2 0 = some 3 := hW2.2.1
      have t3 : mT M 3 = (24, 4) := hW2.2.2.1
      have t31 : mT M 31 = (8, 0) := hTr.1
      have t924 : mT M 924 = (3, 0) := hPa.1
      have t934 : mT M 934 = (2, 0) := hJu.1
      have t938 : mT M 938 = (5, 0) := hRe.1
      have t947 : mT M 947 = (0, 0) := hCu.1
      have t952 : mT M 952 = (1, 0) := hDe.1
      have e9 := hSC.2.2.2.2.2.2.2.1
      refine cw_entry 0 pf_Mc_compare rfl ?_
      refine wp_aload_n rfl (ck_get kk_Mc_compare 0 rfl) ?_
      refine wp_iload_n rfl (ck_get kk_Mc_compare 1 rfl) ?_
      refine wp_cV1i (ck_get kk_Mc_compare 2 rfl) ml_Mc_261 (by omega) (Nat.le_of_ble_eq_true rfl) (by assumption) (Ci.to (c_isLaw hln t0 r00 t1 e9) ?_)
      rintro _ M1 ⟨rfl, eqm1⟩
      obtain rfl := eqm1.symm
      refine wp_if_eq (t := 22) (ck_get kk_Mc_compare 3 rfl) (by decide) (fun hc5 => ?_) (fun hc5 => ?_)
      · refine wp_iconst (v := (-1)) (by decide) (ck_get kk_Mc_compare 10 rfl) ?_
        refine wp_ireturn (ck_get kk_Mc_compare 11 rfl) rfl rfl ⟨_, rfl, ?_⟩
        exact ⟨rfl, hC', MSame.refl _⟩
      · refine wp_iload_n rfl (ck_get kk_Mc_compare 4 rfl) ?_
        refine wp_cS1i (ck_get kk_Mc_compare 5 rfl) ml_Mc_103 (by omega) (Nat.le_of_ble_eq_true rfl) (Ci.to (c_isTenant) ?_)
        rintro _ M1 ⟨rfl, eqm1⟩
        obtain rfl := eqm1.symm
        refine wp_if_eq (t := 22) (ck_get kk_Mc_compare 6 rfl) (by decide) (fun hc12 => ?_) (fun hc12 => ?_)
        · refine wp_iconst (v := (-1)) (by decide) (ck_get kk_Mc_compare 10 rfl) ?_
          refine wp_ireturn (ck_get kk_Mc_compare 11 rfl) rfl rfl ⟨_, rfl, ?_⟩
          exact ⟨rfl, hC', MSame.refl _⟩
        · refine wp_iload_n rfl (ck_get kk_Mc_compare 7 rfl) ?_
          refine wp_cS1i (ck_get kk_Mc_compare 8 rfl) ml_Mc_134 (by omega) (Nat.le_of_ble_eq_true rfl) (Ci.to (c_isKey) ?_)
          rintro _ M1 ⟨rfl, eqm1⟩
          obtain rfl := eqm1.symm
          refine wp_if_ne (t := 24) (ck_get kk_Mc_compare 9 rfl) (by decide) (fun hc19 => ?_) (fun hc19 => ?_)
          · exact absurd ⟨bI_1 hc5, bI_1 hc12, bI_1 hc19⟩ hin
          · refine wp_iconst (v := (-1)) (by decide) (ck_get kk_Mc_compare 10 rfl) ?_
            refine wp_ireturn (ck_get kk_Mc_compare 11 rfl) rfl rfl ⟨_, rfl, ?_⟩
            exact ⟨rfl, hC', MSame.refl _⟩
    · skip
      obtain ⟨hM, hSM, hUM, hIM, hDM, hPM, hNM, hBM⟩ := id h
      have to0 := hM.1
      have e386 := hSM.2.2.2.2.2.2.2.1
      refine cw_entry 2 pf_Mo_compare rfl ?_
      refine wp_aload_n rfl (ck_get kk_Mo_compare 0 rfl) ?_
      refine wp_iload_n rfl (ck_get kk_Mo_compare 1 rfl) ?_
      refine wp_cV1i (ck_get kk_Mo_compare 2 rfl) ml_Mo_288 (by omega) (Nat.le_of_ble_eq_true rfl) (by assumption) (Ci.to (m_isLaw hln hM e386) ?_)
      rintro _ M1 ⟨rfl, eqm1⟩
      obtain rfl := eqm1.symm
      refine wp_if_eq (t := 22) (ck_get kk_Mo_compare 3 rfl) (by decide) (fun hc5 => ?_) (fun hc5 => ?_)
      · refine wp_iconst (v := (-1)) (by decide) (ck_get kk_Mo_compare 10 rfl) ?_
        refine wp_ireturn (ck_get kk_Mo_compare 11 rfl) rfl rfl ⟨_, rfl, ?_⟩
        exact ⟨rfl, h, CSame.refl _⟩
      · refine wp_iload_n rfl (ck_get kk_Mo_compare 4 rfl) ?_
        refine wp_cS1i (ck_get kk_Mo_compare 5 rfl) ml_Mo_152 (by omega) (Nat.le_of_ble_eq_true rfl) (Ci.to (m_isTenant) ?_)
        rintro _ M1 ⟨rfl, eqm1⟩
        obtain rfl := eqm1.symm
        refine wp_if_eq (t := 22) (ck_get kk_Mo_compare 6 rfl) (by decide) (fun hc12 => ?_) (fun hc12 => ?_)
        · refine wp_iconst (v := (-1)) (by decide) (ck_get kk_Mo_compare 10 rfl) ?_
          refine wp_ireturn (ck_get kk_Mo_compare 11 rfl) rfl rfl ⟨_, rfl, ?_⟩
          exact ⟨rfl, h, CSame.refl _⟩
        · refine wp_iload_n rfl (ck_get kk_Mo_compare 7 rfl) ?_
          refine wp_cS1i (ck_get kk_Mo_compare 8 rfl) ml_Mo_156 (by omega) (Nat.le_of_ble_eq_true rfl) (Ci.to (m_isKey) ?_)
          rintro _ M1 ⟨rfl, eqm1⟩
          obtain rfl := eqm1.symm
          refine wp_if_ne (t := 24) (ck_get kk_Mo_compare 9 rfl) (by decide) (fun hc19 => ?_) (fun hc19 => ?_)
          · exact absurd ⟨bI_1 hc5, bI_1 hc12, bI_1 hc19⟩ hin
          · refine wp_iconst (v := (-1)) (by decide) (ck_get kk_Mo_compare 10 rfl) ?_
            refine wp_ireturn (ck_get kk_Mo_compare 11 rfl) rfl rfl ⟨_, rfl, ?_⟩
            exact ⟨rfl, h, CSame.refl _⟩
end FRC
