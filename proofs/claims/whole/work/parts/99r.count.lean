/-! ===== count ===== -/
section CNT
variable {g : Gl} {M : Mem}
/-- time, losses, mood, salt -/
def tvS (s : SH) (j : Nat) : Nat := if j = 0 then (sWo s).1 else if j = 1 then sLo s else if j = 2 then sMd s else sSl s
def tmA (j : Nat) : Nat := if j = 0 then 368 else if j = 1 then 382 else if j = 2 then 383 else 384
theorem c_term {s : SH} {j : Nat} (hj : j < 4) (hA : ShAt (mT M) (mR M) 1) (hS : ShC (mT M) (mR M) (mI M) (mJ M) 1 s) : Ci g Y_Sh_term 0 [.ref 1, .int (nI j)] M (fun x M2 => x = nI (tvS s j) ∧ M2 = M) := by
  have t1 := hA.1
  have r10 : mR M 1 0 = some 2 := hA.2.1
  have t2 : mT M 2 = (9, 0) := hA.2.2.1.1
  have e0 : mI M 2 1 = nI (sWo s).1 := hS.1.1
  have e1 := hS.2.2.1
  have e2 := hS.2.2.2.1
  have e3 := hS.2.2.2.2.1
  refine cw_entry 0 pf_Sh_term rfl ?_
  rcases (show j = 0 ∨ j = 1 ∨ j = 2 ∨ j = 3 by omega) with rfl | rfl | rfl | rfl
  · skip
    refine wp_iload_n rfl (ck_get kk_Sh_term 0 rfl) ?_
    refine wp_tabIn (t := 28) (off := 27) (ck_get kk_Sh_term 1 rfl) (by decide) (by decide) rfl (by decide) ?_
    refine wp_aload_n rfl (ck_get kk_Sh_term 2 rfl) ?_
    refine wp_getR (ck_get kk_Sh_term 3 rfl) fl_Sh_12 (by assumption) (by assumption) ?_
    first | refine wp_getIv (ck_get kk_Sh_term 4 rfl) fl_Sh_57 (by assumption) (by assumption) ?_ | refine wp_getI (ck_get kk_Sh_term 4 rfl) fl_Sh_57 (by assumption) ?_
    refine wp_ireturn (ck_get kk_Sh_term 5 rfl) rfl rfl ⟨_, rfl, ?_⟩
    exact ⟨rfl, rfl⟩
  · skip
    refine wp_iload_n rfl (ck_get kk_Sh_term 0 rfl) ?_
    refine wp_tabIn (t := 36) (off := 35) (ck_get kk_Sh_term 1 rfl) (by decide) (by decide) rfl (by decide) ?_
    refine wp_aload_n rfl (ck_get kk_Sh_term 6 rfl) ?_
    first | refine wp_getIv (ck_get kk_Sh_term 7 rfl) fl_Sh_22 (by assumption) (by assumption) ?_ | refine wp_getI (ck_get kk_Sh_term 7 rfl) fl_Sh_22 (by assumption) ?_
    refine wp_ireturn (ck_get kk_Sh_term 8 rfl) rfl rfl ⟨_, rfl, ?_⟩
    exact ⟨rfl, rfl⟩
  · skip
    refine wp_iload_n rfl (ck_get kk_Sh_term 0 rfl) ?_
    refine wp_tabIn (t := 41) (off := 40) (ck_get kk_Sh_term 1 rfl) (by decide) (by decide) rfl (by decide) ?_
    refine wp_aload_n rfl (ck_get kk_Sh_term 9 rfl) ?_
    first | refine wp_getIv (ck_get kk_Sh_term 10 rfl) fl_Sh_25 (by assumption) (by assumption) ?_ | refine wp_getI (ck_get kk_Sh_term 10 rfl) fl_Sh_25 (by assumption) ?_
    refine wp_ireturn (ck_get kk_Sh_term 11 rfl) rfl rfl ⟨_, rfl, ?_⟩
    exact ⟨rfl, rfl⟩
  · skip
    refine wp_iload_n rfl (ck_get kk_Sh_term 0 rfl) ?_
    refine wp_tabOut (t := 46) (ck_get kk_Sh_term 1 rfl) (by decide) (by decide) ?_
    refine wp_aload_n rfl (ck_get kk_Sh_term 12 rfl) ?_
    first | refine wp_getIv (ck_get kk_Sh_term 13 rfl) fl_Sh_28 (by assumption) (by assumption) ?_ | refine wp_getI (ck_get kk_Sh_term 13 rfl) fl_Sh_28 (by assumption) ?_
    refine wp_ireturn (ck_get kk_Sh_term 14 rfl) rfl rfl ⟨_, rfl, ?_⟩
    exact ⟨rfl, rfl⟩
theorem m_termAt {j : Nat} (hj : j < 4) : Ci g Y_Mo_termAt 0 [.int (nI j)] M (fun x M2 => x = nI (tmA j) ∧ M2 = M) := by
  refine cw_entry 0 pf_Mo_termAt rfl ?_
  rcases (show j = 0 ∨ j = 1 ∨ j = 2 ∨ j = 3 by omega) with rfl | rfl | rfl | rfl
  · skip
    refine wp_iload_n rfl (ck_get kk_Mo_termAt 0 rfl) ?_
    refine wp_tabIn (t := 28) (off := 27) (ck_get kk_Mo_termAt 1 rfl) (by decide) (by decide) rfl (by decide) ?_
    refine wp_sipush (v := nI 368) (by decide) (ck_get kk_Mo_termAt 2 rfl) ?_
    refine wp_ireturn (ck_get kk_Mo_termAt 3 rfl) rfl rfl ⟨_, rfl, ?_⟩
    exact ⟨rfl, rfl⟩
  · skip
    refine wp_iload_n rfl (ck_get kk_Mo_termAt 0 rfl) ?_
    refine wp_tabIn (t := 32) (off := 31) (ck_get kk_Mo_termAt 1 rfl) (by decide) (by decide) rfl (by decide) ?_
    refine wp_sipush (v := nI 382) (by decide) (ck_get kk_Mo_termAt 4 rfl) ?_
    refine wp_ireturn (ck_get kk_Mo_termAt 5 rfl) rfl rfl ⟨_, rfl, ?_⟩
    exact ⟨rfl, rfl⟩
  · skip
    refine wp_iload_n rfl (ck_get kk_Mo_termAt 0 rfl) ?_
    refine wp_tabIn (t := 36) (off := 35) (ck_get kk_Mo_termAt 1 rfl) (by decide) (by decide) rfl (by decide) ?_
    refine wp_sipush (v := nI 383) (by decide) (ck_get kk_Mo_termAt 6 rfl) ?_
    refine wp_ireturn (ck_get kk_Mo_termAt 7 rfl) rfl rfl ⟨_, rfl, ?_⟩
    exact ⟨rfl, rfl⟩
  · skip
    refine wp_iload_n rfl (ck_get kk_Mo_termAt 0 rfl) ?_
    refine wp_tabOut (t := 40) (ck_get kk_Mo_termAt 1 rfl) (by decide) (by decide) ?_
    refine wp_sipush (v := nI 384) (by decide) (ck_get kk_Mo_termAt 8 rfl) ?_
    refine wp_ireturn (ck_get kk_Mo_termAt 9 rfl) rfl rfl ⟨_, rfl, ?_⟩
    exact ⟨rfl, rfl⟩
theorem tm_at {K : Nat → Int32} {P : Nat → Int64} {s : SH} {j : Nat} (hj : j < 4) (h : ShM K P s) : K (tmA j) = nI (tvS s j) := by
  obtain ⟨h1, h2, h3, h4, h5, h6, -⟩ := h
  rcases (show j = 0 ∨ j = 1 ∨ j = 2 ∨ j = 3 by omega) with rfl | rfl | rfl | rfl
  · exact h1.1
  · exact h4
  · exact h5
  · exact h6
theorem tmA_lt (j : Nat) : tmA j < 385 ∧ 368 ≤ tmA j := by unfold tmA; split; omega; split; omega; split <;> omega
theorem b_count {w : Int32} : Both g Y_Mc_count Y_Mo_count [.int w] := by
  intro c z hc hO
  rcases i32c w 15 (by omega) with ⟨j, hj, rfl⟩ | ⟨-, hw⟩
  · rcases (show j = 0 ∨ j = 1 ∨ j = 2 ∨ j = 3 ∨ j = 4 ∨ j = 5 ∨ j = 6 ∨ j = 7 ∨ j = 8 ∨ j = 9 ∨ j = 10 ∨ j = 11 ∨ j = 12 ∨ j = 13 ∨ j = 14 by omega) with rfl | rfl | rfl | rfl | rfl | rfl | rfl | rfl | rfl | rfl | rfl | rfl | rfl | rfl | rfl

    · refine ⟨nI (sPo (zS z)), z, hO.le (by omega), fun M h => ?_, fun M h => ?_⟩
      · skip
        have hC' := h.le (Nat.le_succ c)
        obtain ⟨pf, pg, hL, hSC, hTC, hIC, hDC, hPC, hNC, hBC, hZC⟩ := h
        obtain ⟨t0, ⟨r00, hSh⟩, ⟨r01, hTr⟩, ⟨r02, hTg⟩, ⟨r03, hWa⟩, ⟨r04, hWp⟩, ⟨r06, t921, r921a, r921b, hS0, hS1⟩, ⟨r07, t922⟩, ⟨r08, t923⟩, ⟨r010, hPa⟩, ⟨r011, hJu⟩, ⟨r012, hRe⟩, ⟨r013, hCu⟩, ⟨r014, hDe⟩, ⟨r018, t959⟩, hPf⟩ := id hL
        have t1 : mT M 1 = (6, 0) := hSh.1
        have r10 : mR M 1 0 = some 2 := hSh.2.1
        have hW2 : WoAt (mT M) (mR M) 2 := hSh.2.2.1
        have t2 : mT M 2 = (9, 0) := hW2.1
        have r20 : mR M 2 0 = some 3 := hW2.2.1
        have t3 : mT M 3 = (24, 4) := hW2.2.2.1
        have t31 : mT M 31 = (8, 0) := hTr.1
        have t924 : mT M 924 = (3, 0) := hPa.1
        have t934 : mT M 934 = (2, 0) := hJu.1
        have t938 : mT M 938 = (5, 0) := hRe.1
        have t947 : mT M 947 = (0, 0) := hCu.1
        have t952 : mT M 952 = (1, 0) := hDe.1
        have e := hSC.2.1
        refine cw_entry 0 pf_Mc_count rfl ?_
        refine wp_iload_n rfl (ck_get kk_Mc_count 0 rfl) ?_
        refine wp_tabIn (t := 60) (off := 59) (ck_get kk_Mc_count 1 rfl) (by decide) (by decide) rfl (by decide) ?_
        refine wp_aload_n rfl (ck_get kk_Mc_count 2 rfl) ?_
        refine wp_getR (ck_get kk_Mc_count 3 rfl) fl_Mc_12 (by assumption) (by assumption) ?_
        first | refine wp_getIv (ck_get kk_Mc_count 4 rfl) fl_Mc_188 (by assumption) (by assumption) ?_ | refine wp_getI (ck_get kk_Mc_count 4 rfl) fl_Mc_188 (by assumption) ?_
        refine wp_ireturn (ck_get kk_Mc_count 5 rfl) rfl rfl ⟨_, rfl, ?_⟩
        exact ⟨rfl, hC', MSame.refl _⟩
      · skip
        obtain ⟨hM, hSM, hUM, hIM, hDM, hPM, hNM, hBM⟩ := id h
        have to0 := hM.1
        have rfkept := MoAt.r hM 1 rfl
        have tfkept := MoAt.t hM 1 rfl
        have e : mI M (1020 + 2) 369 = nI (sPo (zS z)) := hSM.2.1
        refine cw_entry 0 pf_Mo_count rfl ?_
        refine wp_iload_n rfl (ck_get kk_Mo_count 0 rfl) ?_
        refine wp_tabIn (t := 76) (off := 75) (ck_get kk_Mo_count 1 rfl) (by decide) (by decide) rfl (by decide) ?_
        refine wp_aload_n rfl (ck_get kk_Mo_count 2 rfl) ?_
        refine wp_getR (ck_get kk_Mo_count 3 rfl) fl_Mo_28 (by assumption) (by assumption) ?_
        refine wp_sipush (v := nI 369) (by decide) (ck_get kk_Mo_count 4 rfl) ?_
        refine wp_ialdv (v := nI (sPo (zS z))) (ck_get kk_Mo_count 5 rfl) (by assumption) (ixk_nI (k := 369) (by omega) (by omega)) (e) ?_
        refine wp_ireturn (ck_get kk_Mo_count 6 rfl) rfl rfl ⟨_, rfl, ?_⟩
        exact ⟨rfl, h, CSame.refl _⟩
    · refine ⟨nI (sSn (zS z)), z, hO.le (by omega), fun M h => ?_, fun M h => ?_⟩
      · skip
        have hC' := h.le (Nat.le_succ c)
        obtain ⟨pf, pg, hL, hSC, hTC, hIC, hDC, hPC, hNC, hBC, hZC⟩ := h
        obtain ⟨t0, ⟨r00, hSh⟩, ⟨r01, hTr⟩, ⟨r02, hTg⟩, ⟨r03, hWa⟩, ⟨r04, hWp⟩, ⟨r06, t921, r921a, r921b, hS0, hS1⟩, ⟨r07, t922⟩, ⟨r08, t923⟩, ⟨r010, hPa⟩, ⟨r011, hJu⟩, ⟨r012, hRe⟩, ⟨r013, hCu⟩, ⟨r014, hDe⟩, ⟨r018, t959⟩, hPf⟩ := id hL
        have t1 : mT M 1 = (6, 0) := hSh.1
        have r10 : mR M 1 0 = some 2 := hSh.2.1
        have hW2 : WoAt (mT M) (mR M) 2 := hSh.2.2.1
        have t2 : mT M 2 = (9, 0) := hW2.1
        have r20 : mR M 2 0 = some 3 := hW2.2.1
        have t3 : mT M 3 = (24, 4) := hW2.2.2.1
        have t31 : mT M 31 = (8, 0) := hTr.1
        have t924 : mT M 924 = (3, 0) := hPa.1
        have t934 : mT M 934 = (2, 0) := hJu.1
        have t938 : mT M 938 = (5, 0) := hRe.1
        have t947 : mT M 947 = (0, 0) := hCu.1
        have t952 : mT M 952 = (1, 0) := hDe.1
        have e := hSC.2.2.2.2.2.1
        refine cw_entry 0 pf_Mc_count rfl ?_
        refine wp_iload_n rfl (ck_get kk_Mc_count 0 rfl) ?_
        refine wp_tabIn (t := 68) (off := 67) (ck_get kk_Mc_count 1 rfl) (by decide) (by decide) rfl (by decide) ?_
        refine wp_aload_n rfl (ck_get kk_Mc_count 6 rfl) ?_
        refine wp_getR (ck_get kk_Mc_count 7 rfl) fl_Mc_12 (by assumption) (by assumption) ?_
        first | refine wp_getIv (ck_get kk_Mc_count 8 rfl) fl_Mc_191 (by assumption) (by assumption) ?_ | refine wp_getI (ck_get kk_Mc_count 8 rfl) fl_Mc_191 (by assumption) ?_
        refine wp_ireturn (ck_get kk_Mc_count 9 rfl) rfl rfl ⟨_, rfl, ?_⟩
        exact ⟨rfl, hC', MSame.refl _⟩
      · skip
        obtain ⟨hM, hSM, hUM, hIM, hDM, hPM, hNM, hBM⟩ := id h
        have to0 := hM.1
        have rfkept := MoAt.r hM 1 rfl
        have tfkept := MoAt.t hM 1 rfl
        have e : mI M (1020 + 2) 385 = nI (sSn (zS z)) := hSM.2.2.2.2.2.2.1
        refine cw_entry 0 pf_Mo_count rfl ?_
        refine wp_iload_n rfl (ck_get kk_Mo_count 0 rfl) ?_
        refine wp_tabIn (t := 85) (off := 84) (ck_get kk_Mo_count 1 rfl) (by decide) (by decide) rfl (by decide) ?_
        refine wp_aload_n rfl (ck_get kk_Mo_count 7 rfl) ?_
        refine wp_getR (ck_get kk_Mo_count 8 rfl) fl_Mo_28 (by assumption) (by assumption) ?_
        refine wp_sipush (v := nI 385) (by decide) (ck_get kk_Mo_count 9 rfl) ?_
        refine wp_ialdv (v := nI (sSn (zS z))) (ck_get kk_Mo_count 10 rfl) (by assumption) (ixk_nI (k := 385) (by omega) (by omega)) (e) ?_
        refine wp_ireturn (ck_get kk_Mo_count 11 rfl) rfl rfl ⟨_, rfl, ?_⟩
        exact ⟨rfl, h, CSame.refl _⟩
    · refine ⟨nI (sLn (zS z)), z, hO.le (by omega), fun M h => ?_, fun M h => ?_⟩
      · skip
        have hC' := h.le (Nat.le_succ c)
        obtain ⟨pf, pg, hL, hSC, hTC, hIC, hDC, hPC, hNC, hBC, hZC⟩ := h
        obtain ⟨t0, ⟨r00, hSh⟩, ⟨r01, hTr⟩, ⟨r02, hTg⟩, ⟨r03, hWa⟩, ⟨r04, hWp⟩, ⟨r06, t921, r921a, r921b, hS0, hS1⟩, ⟨r07, t922⟩, ⟨r08, t923⟩, ⟨r010, hPa⟩, ⟨r011, hJu⟩, ⟨r012, hRe⟩, ⟨r013, hCu⟩, ⟨r014, hDe⟩, ⟨r018, t959⟩, hPf⟩ := id hL
        have t1 : mT M 1 = (6, 0) := hSh.1
        have r10 : mR M 1 0 = some 2 := hSh.2.1
        have hW2 : WoAt (mT M) (mR M) 2 := hSh.2.2.1
        have t2 : mT M 2 = (9, 0) := hW2.1
        have r20 : mR M 2 0 = some 3 := hW2.2.1
        have t3 : mT M 3 = (24, 4) := hW2.2.2.1
        have t31 : mT M 31 = (8, 0) := hTr.1
        have t924 : mT M 924 = (3, 0) := hPa.1
        have t934 : mT M 934 = (2, 0) := hJu.1
        have t938 : mT M 938 = (5, 0) := hRe.1
        have t947 : mT M 947 = (0, 0) := hCu.1
        have t952 : mT M 952 = (1, 0) := hDe.1
        have e := hSC.2.2.2.2.2.2.2.1
        refine cw_entry 0 pf_Mc_count rfl ?_
        refine wp_iload_n rfl (ck_get kk_Mc_count 0 rfl) ?_
        refine wp_tabIn (t := 76) (off := 75) (ck_get kk_Mc_count 1 rfl) (by decide) (by decide) rfl (by decide) ?_
        refine wp_aload_n rfl (ck_get kk_Mc_count 10 rfl) ?_
        refine wp_getR (ck_get kk_Mc_count 11 rfl) fl_Mc_12 (by assumption) (by assumption) ?_
        first | refine wp_getIv (ck_get kk_Mc_count 12 rfl) fl_Mc_194 (by assumption) (by assumption) ?_ | refine wp_getI (ck_get kk_Mc_count 12 rfl) fl_Mc_194 (by assumption) ?_
        refine wp_ireturn (ck_get kk_Mc_count 13 rfl) rfl rfl ⟨_, rfl, ?_⟩
        exact ⟨rfl, hC', MSame.refl _⟩
      · skip
        obtain ⟨hM, hSM, hUM, hIM, hDM, hPM, hNM, hBM⟩ := id h
        have to0 := hM.1
        have rfkept := MoAt.r hM 1 rfl
        have tfkept := MoAt.t hM 1 rfl
        have e : mI M (1020 + 2) 386 = nI (sLn (zS z)) := hSM.2.2.2.2.2.2.2.1
        refine cw_entry 0 pf_Mo_count rfl ?_
        refine wp_iload_n rfl (ck_get kk_Mo_count 0 rfl) ?_
        refine wp_tabIn (t := 94) (off := 93) (ck_get kk_Mo_count 1 rfl) (by decide) (by decide) rfl (by decide) ?_
        refine wp_aload_n rfl (ck_get kk_Mo_count 12 rfl) ?_
        refine wp_getR (ck_get kk_Mo_count 13 rfl) fl_Mo_28 (by assumption) (by assumption) ?_
        refine wp_sipush (v := nI 386) (by decide) (ck_get kk_Mo_count 14 rfl) ?_
        refine wp_ialdv (v := nI (sLn (zS z))) (ck_get kk_Mo_count 15 rfl) (by assumption) (ixk_nI (k := 386) (by omega) (by omega)) (e) ?_
        refine wp_ireturn (ck_get kk_Mo_count 16 rfl) rfl rfl ⟨_, rfl, ?_⟩
        exact ⟨rfl, h, CSame.refl _⟩
    · refine ⟨nI (zU z).1, z, hO.le (by omega), fun M h => ?_, fun M h => ?_⟩
      · skip
        have hC' := h.le (Nat.le_succ c)
        obtain ⟨pf, pg, hL, hSC, hTC, hIC, hDC, hPC, hNC, hBC, hZC⟩ := h
        obtain ⟨t0, ⟨r00, hSh⟩, ⟨r01, hTr⟩, ⟨r02, hTg⟩, ⟨r03, hWa⟩, ⟨r04, hWp⟩, ⟨r06, t921, r921a, r921b, hS0, hS1⟩, ⟨r07, t922⟩, ⟨r08, t923⟩, ⟨r010, hPa⟩, ⟨r011, hJu⟩, ⟨r012, hRe⟩, ⟨r013, hCu⟩, ⟨r014, hDe⟩, ⟨r018, t959⟩, hPf⟩ := id hL
        have t1 : mT M 1 = (6, 0) := hSh.1
        have r10 : mR M 1 0 = some 2 := hSh.2.1
        have hW2 : WoAt (mT M) (mR M) 2 := hSh.2.2.1
        have t2 : mT M 2 = (9, 0) := hW2.1
        have r20 : mR M 2 0 = some 3 := hW2.2.1
        have t3 : mT M 3 = (24, 4) := hW2.2.2.1
        have t31 : mT M 31 = (8, 0) := hTr.1
        have t924 : mT M 924 = (3, 0) := hPa.1
        have t934 : mT M 934 = (2, 0) := hJu.1
        have t938 : mT M 938 = (5, 0) := hRe.1
        have t947 : mT M 947 = (0, 0) := hCu.1
        have t952 : mT M 952 = (1, 0) := hDe.1
        obtain ⟨f, hTC⟩ := hTC
        have e := hTC.2.2.1
        refine cw_entry 0 pf_Mc_count rfl ?_
        refine wp_iload_n rfl (ck_get kk_Mc_count 0 rfl) ?_
        refine wp_tabIn (t := 84) (off := 83) (ck_get kk_Mc_count 1 rfl) (by decide) (by decide) rfl (by decide) ?_
        refine wp_aload_n rfl (ck_get kk_Mc_count 14 rfl) ?_
        refine wp_getR (ck_get kk_Mc_count 15 rfl) fl_Mc_19 (by assumption) (by assumption) ?_
        first | refine wp_getIv (ck_get kk_Mc_count 16 rfl) fl_Mc_197 (by assumption) (by assumption) ?_ | refine wp_getI (ck_get kk_Mc_count 16 rfl) fl_Mc_197 (by assumption) ?_
        refine wp_ireturn (ck_get kk_Mc_count 17 rfl) rfl rfl ⟨_, rfl, ?_⟩
        exact ⟨rfl, hC', MSame.refl _⟩
      · skip
        obtain ⟨hM, hSM, hUM, hIM, hDM, hPM, hNM, hBM⟩ := id h
        have to0 := hM.1
        have e := hUM.1
        refine cw_entry 0 pf_Mo_count rfl ?_
        refine wp_iload_n rfl (ck_get kk_Mo_count 0 rfl) ?_
        refine wp_tabIn (t := 103) (off := 102) (ck_get kk_Mo_count 1 rfl) (by decide) (by decide) rfl (by decide) ?_
        refine wp_aload_n rfl (ck_get kk_Mo_count 17 rfl) ?_
        first | refine wp_getIv (ck_get kk_Mo_count 18 rfl) fl_Mo_11 (by assumption) (by assumption) ?_ | refine wp_getI (ck_get kk_Mo_count 18 rfl) fl_Mo_11 (by assumption) ?_
        refine wp_ireturn (ck_get kk_Mo_count 19 rfl) rfl rfl ⟨_, rfl, ?_⟩
        exact ⟨rfl, h, CSame.refl _⟩
    · refine ⟨nI (zT z).1, z, hO.le (by omega), fun M h => ?_, fun M h => ?_⟩
      · skip
        have hC' := h.le (Nat.le_succ c)
        obtain ⟨pf, pg, hL, hSC, hTC, hIC, hDC, hPC, hNC, hBC, hZC⟩ := h
        obtain ⟨t0, ⟨r00, hSh⟩, ⟨r01, hTr⟩, ⟨r02, hTg⟩, ⟨r03, hWa⟩, ⟨r04, hWp⟩, ⟨r06, t921, r921a, r921b, hS0, hS1⟩, ⟨r07, t922⟩, ⟨r08, t923⟩, ⟨r010, hPa⟩, ⟨r011, hJu⟩, ⟨r012, hRe⟩, ⟨r013, hCu⟩, ⟨r014, hDe⟩, ⟨r018, t959⟩, hPf⟩ := id hL
        have t1 : mT M 1 = (6, 0) := hSh.1
        have r10 : mR M 1 0 = some 2 := hSh.2.1
        have hW2 : WoAt (mT M) (mR M) 2 := hSh.2.2.1
        have t2 : mT M 2 = (9, 0) := hW2.1
        have r20 : mR M 2 0 = some 3 := hW2.2.1
        have t3 : mT M 3 = (24, 4) := hW2.2.2.1
        have t31 : mT M 31 = (8, 0) := hTr.1
        have t924 : mT M 924 = (3, 0) := hPa.1
        have t934 : mT M 934 = (2, 0) := hJu.1
        have t938 : mT M 938 = (5, 0) := hRe.1
        have t947 : mT M 947 = (0, 0) := hCu.1
        have t952 : mT M 952 = (1, 0) := hDe.1
        have e := hPC.1
        refine cw_entry 0 pf_Mc_count rfl ?_
        refine wp_iload_n rfl (ck_get kk_Mc_count 0 rfl) ?_
        refine wp_tabIn (t := 92) (off := 91) (ck_get kk_Mc_count 1 rfl) (by decide) (by decide) rfl (by decide) ?_
        refine wp_aload_n rfl (ck_get kk_Mc_count 18 rfl) ?_
        first | refine wp_getIv (ck_get kk_Mc_count 19 rfl) fl_Mc_52 (by assumption) (by assumption) ?_ | refine wp_getI (ck_get kk_Mc_count 19 rfl) fl_Mc_52 (by assumption) ?_
        refine wp_ireturn (ck_get kk_Mc_count 20 rfl) rfl rfl ⟨_, rfl, ?_⟩
        exact ⟨rfl, hC', MSame.refl _⟩
      · skip
        obtain ⟨hM, hSM, hUM, hIM, hDM, hPM, hNM, hBM⟩ := id h
        have to0 := hM.1
        have e := hPM.1
        refine cw_entry 0 pf_Mo_count rfl ?_
        refine wp_iload_n rfl (ck_get kk_Mo_count 0 rfl) ?_
        refine wp_tabIn (t := 108) (off := 107) (ck_get kk_Mo_count 1 rfl) (by decide) (by decide) rfl (by decide) ?_
        refine wp_aload_n rfl (ck_get kk_Mo_count 20 rfl) ?_
        first | refine wp_getIv (ck_get kk_Mo_count 21 rfl) fl_Mo_179 (by assumption) (by assumption) ?_ | refine wp_getI (ck_get kk_Mo_count 21 rfl) fl_Mo_179 (by assumption) ?_
        refine wp_ireturn (ck_get kk_Mo_count 22 rfl) rfl rfl ⟨_, rfl, ?_⟩
        exact ⟨rfl, h, CSame.refl _⟩
    · refine ⟨zR z 1, z, hO.le (by omega), fun M h => ?_, fun M h => ?_⟩
      · skip
        have hC' := h.le (Nat.le_succ c)
        obtain ⟨pf, pg, hL, hSC, hTC, hIC, hDC, hPC, hNC, hBC, hZC⟩ := h
        obtain ⟨t0, ⟨r00, hSh⟩, ⟨r01, hTr⟩, ⟨r02, hTg⟩, ⟨r03, hWa⟩, ⟨r04, hWp⟩, ⟨r06, t921, r921a, r921b, hS0, hS1⟩, ⟨r07, t922⟩, ⟨r08, t923⟩, ⟨r010, hPa⟩, ⟨r011, hJu⟩, ⟨r012, hRe⟩, ⟨r013, hCu⟩, ⟨r014, hDe⟩, ⟨r018, t959⟩, hPf⟩ := id hL
        have t1 : mT M 1 = (6, 0) := hSh.1
        have r10 : mR M 1 0 = some 2 := hSh.2.1
        have hW2 : WoAt (mT M) (mR M) 2 := hSh.2.2.1
        have t2 : mT M 2 = (9, 0) := hW2.1
        have r20 : mR M 2 0 = some 3 := hW2.2.1
        have t3 : mT M 3 = (24, 4) := hW2.2.2.1
        have t31 : mT M 31 = (8, 0) := hTr.1
        have t924 : mT M 924 = (3, 0) := hPa.1
        have t934 : mT M 934 = (2, 0) := hJu.1
        have t938 : mT M 938 = (5, 0) := hRe.1
        have t947 : mT M 947 = (0, 0) := hCu.1
        have t952 : mT M 952 = (1, 0) := hDe.1
        have e := hNC.2.2.2.2 1 (by omega)
        refine cw_entry 0 pf_Mc_count rfl ?_
        refine wp_iload_n rfl (ck_get kk_Mc_count 0 rfl) ?_
        refine wp_tabIn (t := 97) (off := 96) (ck_get kk_Mc_count 1 rfl) (by decide) (by decide) rfl (by decide) ?_
        refine wp_aload_n rfl (ck_get kk_Mc_count 21 rfl) ?_
        refine wp_getR (ck_get kk_Mc_count 22 rfl) fl_Mc_100 (by assumption) (by assumption) ?_
        refine wp_iconst (v := nI 1) (by decide) (ck_get kk_Mc_count 23 rfl) ?_
        refine wp_ialdv (v := zR z 1) (ck_get kk_Mc_count 24 rfl) (by assumption) (ixk_nI (k := 1) (by omega) (by omega)) (e) ?_
        refine wp_ireturn (ck_get kk_Mc_count 25 rfl) rfl rfl ⟨_, rfl, ?_⟩
        exact ⟨rfl, hC', MSame.refl _⟩
      · skip
        obtain ⟨hM, hSM, hUM, hIM, hDM, hPM, hNM, hBM⟩ := id h
        have to0 := hM.1
        have rfrefused := MoAt.r hM 0 rfl
        have tfrefused := MoAt.t hM 0 rfl
        have e : mI M (1020 + 1) 1 = zR z 1 := hNM.2.2.2.2.2 1 (by omega)
        refine cw_entry 0 pf_Mo_count rfl ?_
        refine wp_iload_n rfl (ck_get kk_Mo_count 0 rfl) ?_
        refine wp_tabIn (t := 113) (off := 112) (ck_get kk_Mo_count 1 rfl) (by decide) (by decide) rfl (by decide) ?_
        refine wp_aload_n rfl (ck_get kk_Mo_count 23 rfl) ?_
        refine wp_getR (ck_get kk_Mo_count 24 rfl) fl_Mo_7 (by assumption) (by assumption) ?_
        refine wp_iload_n rfl (ck_get kk_Mo_count 25 rfl) ?_
        refine wp_iconst (v := nI 4) (by decide) (ck_get kk_Mo_count 26 rfl) ?_
        refine wp_isubN (ck_get kk_Mo_count 27 rfl) (by omega) ?_
        refine wp_ialdv (v := zR z 1) (ck_get kk_Mo_count 28 rfl) (by assumption) (ixk_nI (k := 1) (by omega) (by omega)) (e) ?_
        refine wp_ireturn (ck_get kk_Mo_count 29 rfl) rfl rfl ⟨_, rfl, ?_⟩
        exact ⟨rfl, h, CSame.refl _⟩
    · refine ⟨zR z 2, z, hO.le (by omega), fun M h => ?_, fun M h => ?_⟩
      · skip
        have hC' := h.le (Nat.le_succ c)
        obtain ⟨pf, pg, hL, hSC, hTC, hIC, hDC, hPC, hNC, hBC, hZC⟩ := h
        obtain ⟨t0, ⟨r00, hSh⟩, ⟨r01, hTr⟩, ⟨r02, hTg⟩, ⟨r03, hWa⟩, ⟨r04, hWp⟩, ⟨r06, t921, r921a, r921b, hS0, hS1⟩, ⟨r07, t922⟩, ⟨r08, t923⟩, ⟨r010, hPa⟩, ⟨r011, hJu⟩, ⟨r012, hRe⟩, ⟨r013, hCu⟩, ⟨r014, hDe⟩, ⟨r018, t959⟩, hPf⟩ := id hL
        have t1 : mT M 1 = (6, 0) := hSh.1
        have r10 : mR M 1 0 = some 2 := hSh.2.1
        have hW2 : WoAt (mT M) (mR M) 2 := hSh.2.2.1
        have t2 : mT M 2 = (9, 0) := hW2.1
        have r20 : mR M 2 0 = some 3 := hW2.2.1
        have t3 : mT M 3 = (24, 4) := hW2.2.2.1
        have t31 : mT M 31 = (8, 0) := hTr.1
        have t924 : mT M 924 = (3, 0) := hPa.1
        have t934 : mT M 934 = (2, 0) := hJu.1
        have t938 : mT M 938 = (5, 0) := hRe.1
        have t947 : mT M 947 = (0, 0) := hCu.1
        have t952 : mT M 952 = (1, 0) := hDe.1
        have e := hNC.2.2.2.2 2 (by omega)
        refine cw_entry 0 pf_Mc_count rfl ?_
        refine wp_iload_n rfl (ck_get kk_Mc_count 0 rfl) ?_
        refine wp_tabIn (t := 104) (off := 103) (ck_get kk_Mc_count 1 rfl) (by decide) (by decide) rfl (by decide) ?_
        refine wp_aload_n rfl (ck_get kk_Mc_count 26 rfl) ?_
        refine wp_getR (ck_get kk_Mc_count 27 rfl) fl_Mc_100 (by assumption) (by assumption) ?_
        refine wp_iconst (v := nI 2) (by decide) (ck_get kk_Mc_count 28 rfl) ?_
        refine wp_ialdv (v := zR z 2) (ck_get kk_Mc_count 29 rfl) (by assumption) (ixk_nI (k := 2) (by omega) (by omega)) (e) ?_
        refine wp_ireturn (ck_get kk_Mc_count 30 rfl) rfl rfl ⟨_, rfl, ?_⟩
        exact ⟨rfl, hC', MSame.refl _⟩
      · skip
        obtain ⟨hM, hSM, hUM, hIM, hDM, hPM, hNM, hBM⟩ := id h
        have to0 := hM.1
        have rfrefused := MoAt.r hM 0 rfl
        have tfrefused := MoAt.t hM 0 rfl
        have e : mI M (1020 + 1) 2 = zR z 2 := hNM.2.2.2.2.2 2 (by omega)
        refine cw_entry 0 pf_Mo_count rfl ?_
        refine wp_iload_n rfl (ck_get kk_Mo_count 0 rfl) ?_
        refine wp_tabIn (t := 113) (off := 112) (ck_get kk_Mo_count 1 rfl) (by decide) (by decide) rfl (by decide) ?_
        refine wp_aload_n rfl (ck_get kk_Mo_count 23 rfl) ?_
        refine wp_getR (ck_get kk_Mo_count 24 rfl) fl_Mo_7 (by assumption) (by assumption) ?_
        refine wp_iload_n rfl (ck_get kk_Mo_count 25 rfl) ?_
        refine wp_iconst (v := nI 4) (by decide) (ck_get kk_Mo_count 26 rfl) ?_
        refine wp_isubN (ck_get kk_Mo_count 27 rfl) (by omega) ?_
        refine wp_ialdv (v := zR z 2) (ck_get kk_Mo_count 28 rfl) (by assumption) (ixk_nI (k := 2) (by omega) (by omega)) (e) ?_
        refine wp_ireturn (ck_get kk_Mo_count 29 rfl) rfl rfl ⟨_, rfl, ?_⟩
        exact ⟨rfl, h, CSame.refl _⟩
    · refine ⟨zR z 3, z, hO.le (by omega), fun M h => ?_, fun M h => ?_⟩
      · skip
        have hC' := h.le (Nat.le_succ c)
        obtain ⟨pf, pg, hL, hSC, hTC, hIC, hDC, hPC, hNC, hBC, hZC⟩ := h
        obtain ⟨t0, ⟨r00, hSh⟩, ⟨r01, hTr⟩, ⟨r02, hTg⟩, ⟨r03, hWa⟩, ⟨r04, hWp⟩, ⟨r06, t921, r921a, r921b, hS0, hS1⟩, ⟨r07, t922⟩, ⟨r08, t923⟩, ⟨r010, hPa⟩, ⟨r011, hJu⟩, ⟨r012, hRe⟩, ⟨r013, hCu⟩, ⟨r014, hDe⟩, ⟨r018, t959⟩, hPf⟩ := id hL
        have t1 : mT M 1 = (6, 0) := hSh.1
        have r10 : mR M 1 0 = some 2 := hSh.2.1
        have hW2 : WoAt (mT M) (mR M) 2 := hSh.2.2.1
        have t2 : mT M 2 = (9, 0) := hW2.1
        have r20 : mR M 2 0 = some 3 := hW2.2.1
        have t3 : mT M 3 = (24, 4) := hW2.2.2.1
        have t31 : mT M 31 = (8, 0) := hTr.1
        have t924 : mT M 924 = (3, 0) := hPa.1
        have t934 : mT M 934 = (2, 0) := hJu.1
        have t938 : mT M 938 = (5, 0) := hRe.1
        have t947 : mT M 947 = (0, 0) := hCu.1
        have t952 : mT M 952 = (1, 0) := hDe.1
        have e := hNC.2.2.2.2 3 (by omega)
        refine cw_entry 0 pf_Mc_count rfl ?_
        refine wp_iload_n rfl (ck_get kk_Mc_count 0 rfl) ?_
        refine wp_tabIn (t := 111) (off := 110) (ck_get kk_Mc_count 1 rfl) (by decide) (by decide) rfl (by decide) ?_
        refine wp_aload_n rfl (ck_get kk_Mc_count 31 rfl) ?_
        refine wp_getR (ck_get kk_Mc_count 32 rfl) fl_Mc_100 (by assumption) (by assumption) ?_
        refine wp_iconst (v := nI 3) (by decide) (ck_get kk_Mc_count 33 rfl) ?_
        refine wp_ialdv (v := zR z 3) (ck_get kk_Mc_count 34 rfl) (by assumption) (ixk_nI (k := 3) (by omega) (by omega)) (e) ?_
        refine wp_ireturn (ck_get kk_Mc_count 35 rfl) rfl rfl ⟨_, rfl, ?_⟩
        exact ⟨rfl, hC', MSame.refl _⟩
      · skip
        obtain ⟨hM, hSM, hUM, hIM, hDM, hPM, hNM, hBM⟩ := id h
        have to0 := hM.1
        have rfrefused := MoAt.r hM 0 rfl
        have tfrefused := MoAt.t hM 0 rfl
        have e : mI M (1020 + 1) 3 = zR z 3 := hNM.2.2.2.2.2 3 (by omega)
        refine cw_entry 0 pf_Mo_count rfl ?_
        refine wp_iload_n rfl (ck_get kk_Mo_count 0 rfl) ?_
        refine wp_tabIn (t := 113) (off := 112) (ck_get kk_Mo_count 1 rfl) (by decide) (by decide) rfl (by decide) ?_
        refine wp_aload_n rfl (ck_get kk_Mo_count 23 rfl) ?_
        refine wp_getR (ck_get kk_Mo_count 24 rfl) fl_Mo_7 (by assumption) (by assumption) ?_
        refine wp_iload_n rfl (ck_get kk_Mo_count 25 rfl) ?_
        refine wp_iconst (v := nI 4) (by decide) (ck_get kk_Mo_count 26 rfl) ?_
        refine wp_isubN (ck_get kk_Mo_count 27 rfl) (by omega) ?_
        refine wp_ialdv (v := zR z 3) (ck_get kk_Mo_count 28 rfl) (by assumption) (ixk_nI (k := 3) (by omega) (by omega)) (e) ?_
        refine wp_ireturn (ck_get kk_Mo_count 29 rfl) rfl rfl ⟨_, rfl, ?_⟩
        exact ⟨rfl, h, CSame.refl _⟩
    · refine ⟨zR z 5, z, hO.le (by omega), fun M h => ?_, fun M h => ?_⟩
      · skip
        have hC' := h.le (Nat.le_succ c)
        obtain ⟨pf, pg, hL, hSC, hTC, hIC, hDC, hPC, hNC, hBC, hZC⟩ := h
        obtain ⟨t0, ⟨r00, hSh⟩, ⟨r01, hTr⟩, ⟨r02, hTg⟩, ⟨r03, hWa⟩, ⟨r04, hWp⟩, ⟨r06, t921, r921a, r921b, hS0, hS1⟩, ⟨r07, t922⟩, ⟨r08, t923⟩, ⟨r010, hPa⟩, ⟨r011, hJu⟩, ⟨r012, hRe⟩, ⟨r013, hCu⟩, ⟨r014, hDe⟩, ⟨r018, t959⟩, hPf⟩ := id hL
        have t1 : mT M 1 = (6, 0) := hSh.1
        have r10 : mR M 1 0 = some 2 := hSh.2.1
        have hW2 : WoAt (mT M) (mR M) 2 := hSh.2.2.1
        have t2 : mT M 2 = (9, 0) := hW2.1
        have r20 : mR M 2 0 = some 3 := hW2.2.1
        have t3 : mT M 3 = (24, 4) := hW2.2.2.1
        have t31 : mT M 31 = (8, 0) := hTr.1
        have t924 : mT M 924 = (3, 0) := hPa.1
        have t934 : mT M 934 = (2, 0) := hJu.1
        have t938 : mT M 938 = (5, 0) := hRe.1
        have t947 : mT M 947 = (0, 0) := hCu.1
        have t952 : mT M 952 = (1, 0) := hDe.1
        have e := hNC.2.2.2.2 5 (by omega)
        refine cw_entry 0 pf_Mc_count rfl ?_
        refine wp_iload_n rfl (ck_get kk_Mc_count 0 rfl) ?_
        refine wp_tabIn (t := 118) (off := 117) (ck_get kk_Mc_count 1 rfl) (by decide) (by decide) rfl (by decide) ?_
        refine wp_aload_n rfl (ck_get kk_Mc_count 36 rfl) ?_
        refine wp_getR (ck_get kk_Mc_count 37 rfl) fl_Mc_100 (by assumption) (by assumption) ?_
        refine wp_iconst (v := nI 5) (by decide) (ck_get kk_Mc_count 38 rfl) ?_
        refine wp_ialdv (v := zR z 5) (ck_get kk_Mc_count 39 rfl) (by assumption) (ixk_nI (k := 5) (by omega) (by omega)) (e) ?_
        refine wp_ireturn (ck_get kk_Mc_count 40 rfl) rfl rfl ⟨_, rfl, ?_⟩
        exact ⟨rfl, hC', MSame.refl _⟩
      · skip
        obtain ⟨hM, hSM, hUM, hIM, hDM, hPM, hNM, hBM⟩ := id h
        have to0 := hM.1
        have rfrefused := MoAt.r hM 0 rfl
        have tfrefused := MoAt.t hM 0 rfl
        have e : mI M (1020 + 1) 5 = zR z 5 := hNM.2.2.2.2.2 5 (by omega)
        refine cw_entry 0 pf_Mo_count rfl ?_
        refine wp_iload_n rfl (ck_get kk_Mo_count 0 rfl) ?_
        refine wp_tabIn (t := 122) (off := 121) (ck_get kk_Mo_count 1 rfl) (by decide) (by decide) rfl (by decide) ?_
        refine wp_aload_n rfl (ck_get kk_Mo_count 30 rfl) ?_
        refine wp_getR (ck_get kk_Mo_count 31 rfl) fl_Mo_7 (by assumption) (by assumption) ?_
        refine wp_iconst (v := nI 5) (by decide) (ck_get kk_Mo_count 32 rfl) ?_
        refine wp_ialdv (v := zR z 5) (ck_get kk_Mo_count 33 rfl) (by assumption) (ixk_nI (k := 5) (by omega) (by omega)) (e) ?_
        refine wp_ireturn (ck_get kk_Mo_count 34 rfl) rfl rfl ⟨_, rfl, ?_⟩
        exact ⟨rfl, h, CSame.refl _⟩
    · refine ⟨zR z 6, z, hO.le (by omega), fun M h => ?_, fun M h => ?_⟩
      · skip
        have hC' := h.le (Nat.le_succ c)
        obtain ⟨pf, pg, hL, hSC, hTC, hIC, hDC, hPC, hNC, hBC, hZC⟩ := h
        obtain ⟨t0, ⟨r00, hSh⟩, ⟨r01, hTr⟩, ⟨r02, hTg⟩, ⟨r03, hWa⟩, ⟨r04, hWp⟩, ⟨r06, t921, r921a, r921b, hS0, hS1⟩, ⟨r07, t922⟩, ⟨r08, t923⟩, ⟨r010, hPa⟩, ⟨r011, hJu⟩, ⟨r012, hRe⟩, ⟨r013, hCu⟩, ⟨r014, hDe⟩, ⟨r018, t959⟩, hPf⟩ := id hL
        have t1 : mT M 1 = (6, 0) := hSh.1
        have r10 : mR M 1 0 = some 2 := hSh.2.1
        have hW2 : WoAt (mT M) (mR M) 2 := hSh.2.2.1
        have t2 : mT M 2 = (9, 0) := hW2.1
        have r20 : mR M 2 0 = some 3 := hW2.2.1
        have t3 : mT M 3 = (24, 4) := hW2.2.2.1
        have t31 : mT M 31 = (8, 0) := hTr.1
        have t924 : mT M 924 = (3, 0) := hPa.1
        have t934 : mT M 934 = (2, 0) := hJu.1
        have t938 : mT M 938 = (5, 0) := hRe.1
        have t947 : mT M 947 = (0, 0) := hCu.1
        have t952 : mT M 952 = (1, 0) := hDe.1
        have e := hNC.2.2.2.2 6 (by omega)
        refine cw_entry 0 pf_Mc_count rfl ?_
        refine wp_iload_n rfl (ck_get kk_Mc_count 0 rfl) ?_
        refine wp_tabIn (t := 125) (off := 124) (ck_get kk_Mc_count 1 rfl) (by decide) (by decide) rfl (by decide) ?_
        refine wp_aload_n rfl (ck_get kk_Mc_count 41 rfl) ?_
        refine wp_getR (ck_get kk_Mc_count 42 rfl) fl_Mc_100 (by assumption) (by assumption) ?_
        refine wp_bipush (v := nI 6) (by decide) (ck_get kk_Mc_count 43 rfl) ?_
        refine wp_ialdv (v := zR z 6) (ck_get kk_Mc_count 44 rfl) (by assumption) (ixk_nI (k := 6) (by omega) (by omega)) (e) ?_
        refine wp_ireturn (ck_get kk_Mc_count 45 rfl) rfl rfl ⟨_, rfl, ?_⟩
        exact ⟨rfl, hC', MSame.refl _⟩
      · skip
        obtain ⟨hM, hSM, hUM, hIM, hDM, hPM, hNM, hBM⟩ := id h
        have to0 := hM.1
        have rfrefused := MoAt.r hM 0 rfl
        have tfrefused := MoAt.t hM 0 rfl
        have e : mI M (1020 + 1) 6 = zR z 6 := hNM.2.2.2.2.2 6 (by omega)
        refine cw_entry 0 pf_Mo_count rfl ?_
        refine wp_iload_n rfl (ck_get kk_Mo_count 0 rfl) ?_
        refine wp_tabIn (t := 129) (off := 128) (ck_get kk_Mo_count 1 rfl) (by decide) (by decide) rfl (by decide) ?_
        refine wp_aload_n rfl (ck_get kk_Mo_count 35 rfl) ?_
        refine wp_getR (ck_get kk_Mo_count 36 rfl) fl_Mo_7 (by assumption) (by assumption) ?_
        refine wp_bipush (v := nI 6) (by decide) (ck_get kk_Mo_count 37 rfl) ?_
        refine wp_ialdv (v := zR z 6) (ck_get kk_Mo_count 38 rfl) (by assumption) (ixk_nI (k := 6) (by omega) (by omega)) (e) ?_
        refine wp_ireturn (ck_get kk_Mo_count 39 rfl) rfl rfl ⟨_, rfl, ?_⟩
        exact ⟨rfl, h, CSame.refl _⟩
    · refine ⟨sFo (zS z), z, hO.le (by omega), fun M h => ?_, fun M h => ?_⟩
      · skip
        have hC' := h.le (Nat.le_succ c)
        obtain ⟨pf, pg, hL, hSC, hTC, hIC, hDC, hPC, hNC, hBC, hZC⟩ := h
        obtain ⟨t0, ⟨r00, hSh⟩, ⟨r01, hTr⟩, ⟨r02, hTg⟩, ⟨r03, hWa⟩, ⟨r04, hWp⟩, ⟨r06, t921, r921a, r921b, hS0, hS1⟩, ⟨r07, t922⟩, ⟨r08, t923⟩, ⟨r010, hPa⟩, ⟨r011, hJu⟩, ⟨r012, hRe⟩, ⟨r013, hCu⟩, ⟨r014, hDe⟩, ⟨r018, t959⟩, hPf⟩ := id hL
        have t1 : mT M 1 = (6, 0) := hSh.1
        have r10 : mR M 1 0 = some 2 := hSh.2.1
        have hW2 : WoAt (mT M) (mR M) 2 := hSh.2.2.1
        have t2 : mT M 2 = (9, 0) := hW2.1
        have r20 : mR M 2 0 = some 3 := hW2.2.1
        have t3 : mT M 3 = (24, 4) := hW2.2.2.1
        have t31 : mT M 31 = (8, 0) := hTr.1
        have t924 : mT M 924 = (3, 0) := hPa.1
        have t934 : mT M 934 = (2, 0) := hJu.1
        have t938 : mT M 938 = (5, 0) := hRe.1
        have t947 : mT M 947 = (0, 0) := hCu.1
        have t952 : mT M 952 = (1, 0) := hDe.1
        have e := hSC.2.2.2.2.2.2.2.2.1
        refine cw_entry 0 pf_Mc_count rfl ?_
        refine wp_iload_n rfl (ck_get kk_Mc_count 0 rfl) ?_
        refine wp_tabIn (t := 133) (off := 132) (ck_get kk_Mc_count 1 rfl) (by decide) (by decide) rfl (by decide) ?_
        refine wp_aload_n rfl (ck_get kk_Mc_count 46 rfl) ?_
        refine wp_getR (ck_get kk_Mc_count 47 rfl) fl_Mc_12 (by assumption) (by assumption) ?_
        first | refine wp_getIv (ck_get kk_Mc_count 48 rfl) fl_Mc_151 (by assumption) (by assumption) ?_ | refine wp_getI (ck_get kk_Mc_count 48 rfl) fl_Mc_151 (by assumption) ?_
        refine wp_ireturn (ck_get kk_Mc_count 49 rfl) rfl rfl ⟨_, rfl, ?_⟩
        exact ⟨rfl, hC', MSame.refl _⟩
      · skip
        obtain ⟨hM, hSM, hUM, hIM, hDM, hPM, hNM, hBM⟩ := id h
        have to0 := hM.1
        have rfkept := MoAt.r hM 1 rfl
        have tfkept := MoAt.t hM 1 rfl
        have e : mI M (1020 + 2) 387 = sFo (zS z) := hSM.2.2.2.2.2.2.2.2.1
        refine cw_entry 0 pf_Mo_count rfl ?_
        refine wp_iload_n rfl (ck_get kk_Mo_count 0 rfl) ?_
        refine wp_tabIn (t := 137) (off := 136) (ck_get kk_Mo_count 1 rfl) (by decide) (by decide) rfl (by decide) ?_
        refine wp_aload_n rfl (ck_get kk_Mo_count 40 rfl) ?_
        refine wp_getR (ck_get kk_Mo_count 41 rfl) fl_Mo_28 (by assumption) (by assumption) ?_
        refine wp_sipush (v := nI 387) (by decide) (ck_get kk_Mo_count 42 rfl) ?_
        refine wp_ialdv (v := sFo (zS z)) (ck_get kk_Mo_count 43 rfl) (by assumption) (ixk_nI (k := 387) (by omega) (by omega)) (e) ?_
        refine wp_ireturn (ck_get kk_Mo_count 44 rfl) rfl rfl ⟨_, rfl, ?_⟩
        exact ⟨rfl, h, CSame.refl _⟩
    · refine ⟨nI (tvS (zS z) 0), z, hO.le (by omega), fun M h => ?_, fun M h => ?_⟩
      · skip
        have hC' := h.le (Nat.le_succ c)
        obtain ⟨pf, pg, hL, hSC, hTC, hIC, hDC, hPC, hNC, hBC, hZC⟩ := h
        obtain ⟨t0, ⟨r00, hSh⟩, ⟨r01, hTr⟩, ⟨r02, hTg⟩, ⟨r03, hWa⟩, ⟨r04, hWp⟩, ⟨r06, t921, r921a, r921b, hS0, hS1⟩, ⟨r07, t922⟩, ⟨r08, t923⟩, ⟨r010, hPa⟩, ⟨r011, hJu⟩, ⟨r012, hRe⟩, ⟨r013, hCu⟩, ⟨r014, hDe⟩, ⟨r018, t959⟩, hPf⟩ := id hL
        have t1 : mT M 1 = (6, 0) := hSh.1
        have r10 : mR M 1 0 = some 2 := hSh.2.1
        have hW2 : WoAt (mT M) (mR M) 2 := hSh.2.2.1
        have t2 : mT M 2 = (9, 0) := hW2.1
        have r20 : mR M 2 0 = some 3 := hW2.2.1
        have t3 : mT M 3 = (24, 4) := hW2.2.2.1
        have t31 : mT M 31 = (8, 0) := hTr.1
        have t924 : mT M 924 = (3, 0) := hPa.1
        have t934 : mT M 934 = (2, 0) := hJu.1
        have t938 : mT M 938 = (5, 0) := hRe.1
        have t947 : mT M 947 = (0, 0) := hCu.1
        have t952 : mT M 952 = (1, 0) := hDe.1
        refine cw_entry 0 pf_Mc_count rfl ?_
        refine wp_iload_n rfl (ck_get kk_Mc_count 0 rfl) ?_
        refine wp_tabOut (t := 141) (ck_get kk_Mc_count 1 rfl) (by decide) (by decide) ?_
        refine wp_iload_n rfl (ck_get kk_Mc_count 50 rfl) ?_
        refine wp_bipush (v := nI 11) (by decide) (ck_get kk_Mc_count 51 rfl) ?_
        first | refine wp_icmp_ltN (t := 167) (ck_get kk_Mc_count 52 rfl) (by decide) (by omega) (by omega) (fun hc144 => ?_) (fun hc144 => ?_) | refine wp_icmp_lt (t := 167) (ck_get kk_Mc_count 52 rfl) (by decide) (fun hc144 => ?_) (fun hc144 => ?_)
        · omega
        · refine wp_iload_n rfl (ck_get kk_Mc_count 53 rfl) ?_
          refine wp_bipush (v := nI 14) (by decide) (ck_get kk_Mc_count 54 rfl) ?_
          first | refine wp_icmp_gtN (t := 167) (ck_get kk_Mc_count 55 rfl) (by decide) (by omega) (by omega) (fun hc150 => ?_) (fun hc150 => ?_) | refine wp_icmp_gt (t := 167) (ck_get kk_Mc_count 55 rfl) (by decide) (fun hc150 => ?_) (fun hc150 => ?_)
          · omega
          · refine wp_aload_n rfl (ck_get kk_Mc_count 56 rfl) ?_
            refine wp_getR (ck_get kk_Mc_count 57 rfl) fl_Mc_12 (by assumption) (by assumption) ?_
            refine wp_iload_n rfl (ck_get kk_Mc_count 58 rfl) ?_
            refine wp_bipush (v := nI 11) (by decide) (ck_get kk_Mc_count 59 rfl) ?_
            refine wp_isubN (ck_get kk_Mc_count 60 rfl) (by omega) ?_
            refine wp_cV1i (ck_get kk_Mc_count 61 rfl) ml_Mc_175 (by omega) (Nat.le_of_ble_eq_true rfl) (by assumption) (Ci.to (c_term (s := zS z) (j := 0) (by omega) hSh hSC) ?_)
            rintro _ M1 ⟨rfl, eqm1⟩
            obtain rfl := eqm1.symm
            refine wp_goto (t := 168) (ck_get kk_Mc_count 62 rfl) (by decide) ?_
            refine wp_ireturn (ck_get kk_Mc_count 64 rfl) rfl rfl ⟨_, rfl, ?_⟩
            exact ⟨rfl, hC', MSame.refl _⟩
      · skip
        obtain ⟨hM, hSM, hUM, hIM, hDM, hPM, hNM, hBM⟩ := id h
        have to0 := hM.1
        have rfkept := MoAt.r hM 1 rfl
        have tfkept := MoAt.t hM 1 rfl
        refine cw_entry 0 pf_Mo_count rfl ?_
        refine wp_iload_n rfl (ck_get kk_Mo_count 0 rfl) ?_
        refine wp_tabIn (t := 146) (off := 145) (ck_get kk_Mo_count 1 rfl) (by decide) (by decide) rfl (by decide) ?_
        refine wp_aload_n rfl (ck_get kk_Mo_count 45 rfl) ?_
        refine wp_getR (ck_get kk_Mo_count 46 rfl) fl_Mo_28 (by assumption) (by assumption) ?_
        refine wp_iload_n rfl (ck_get kk_Mo_count 47 rfl) ?_
        refine wp_bipush (v := nI 11) (by decide) (ck_get kk_Mo_count 48 rfl) ?_
        refine wp_isubN (ck_get kk_Mo_count 49 rfl) (by omega) ?_
        refine wp_cS1i (ck_get kk_Mo_count 50 rfl) ml_Mo_176 (by omega) (Nat.le_of_ble_eq_true rfl) (Ci.to (m_termAt (j := 0) (by omega)) ?_)
        rintro _ M1 ⟨rfl, eqm1⟩
        obtain rfl := eqm1.symm
        refine wp_ialdv (v := nI (tvS (zS z) 0)) (ck_get kk_Mo_count 51 rfl) (by assumption) (ixk_nI (k := tmA 0) (by have := tmA_lt 0; omega) (by omega)) ((tm_at (by omega) hSM)) ?_
        refine wp_ireturn (ck_get kk_Mo_count 52 rfl) rfl rfl ⟨_, rfl, ?_⟩
        exact ⟨rfl, h, CSame.refl _⟩
    · refine ⟨nI (tvS (zS z) 1), z, hO.le (by omega), fun M h => ?_, fun M h => ?_⟩
      · skip
        have hC' := h.le (Nat.le_succ c)
        obtain ⟨pf, pg, hL, hSC, hTC, hIC, hDC, hPC, hNC, hBC, hZC⟩ := h
        obtain ⟨t0, ⟨r00, hSh⟩, ⟨r01, hTr⟩, ⟨r02, hTg⟩, ⟨r03, hWa⟩, ⟨r04, hWp⟩, ⟨r06, t921, r921a, r921b, hS0, hS1⟩, ⟨r07, t922⟩, ⟨r08, t923⟩, ⟨r010, hPa⟩, ⟨r011, hJu⟩, ⟨r012, hRe⟩, ⟨r013, hCu⟩, ⟨r014, hDe⟩, ⟨r018, t959⟩, hPf⟩ := id hL
        have t1 : mT M 1 = (6, 0) := hSh.1
        have r10 : mR M 1 0 = some 2 := hSh.2.1
        have hW2 : WoAt (mT M) (mR M) 2 := hSh.2.2.1
        have t2 : mT M 2 = (9, 0) := hW2.1
        have r20 : mR M 2 0 = some 3 := hW2.2.1
        have t3 : mT M 3 = (24, 4) := hW2.2.2.1
        have t31 : mT M 31 = (8, 0) := hTr.1
        have t924 : mT M 924 = (3, 0) := hPa.1
        have t934 : mT M 934 = (2, 0) := hJu.1
        have t938 : mT M 938 = (5, 0) := hRe.1
        have t947 : mT M 947 = (0, 0) := hCu.1
        have t952 : mT M 952 = (1, 0) := hDe.1
        refine cw_entry 0 pf_Mc_count rfl ?_
        refine wp_iload_n rfl (ck_get kk_Mc_count 0 rfl) ?_
        refine wp_tabOut (t := 141) (ck_get kk_Mc_count 1 rfl) (by decide) (by decide) ?_
        refine wp_iload_n rfl (ck_get kk_Mc_count 50 rfl) ?_
        refine wp_bipush (v := nI 11) (by decide) (ck_get kk_Mc_count 51 rfl) ?_
        first | refine wp_icmp_ltN (t := 167) (ck_get kk_Mc_count 52 rfl) (by decide) (by omega) (by omega) (fun hc144 => ?_) (fun hc144 => ?_) | refine wp_icmp_lt (t := 167) (ck_get kk_Mc_count 52 rfl) (by decide) (fun hc144 => ?_) (fun hc144 => ?_)
        · omega
        · refine wp_iload_n rfl (ck_get kk_Mc_count 53 rfl) ?_
          refine wp_bipush (v := nI 14) (by decide) (ck_get kk_Mc_count 54 rfl) ?_
          first | refine wp_icmp_gtN (t := 167) (ck_get kk_Mc_count 55 rfl) (by decide) (by omega) (by omega) (fun hc150 => ?_) (fun hc150 => ?_) | refine wp_icmp_gt (t := 167) (ck_get kk_Mc_count 55 rfl) (by decide) (fun hc150 => ?_) (fun hc150 => ?_)
          · omega
          · refine wp_aload_n rfl (ck_get kk_Mc_count 56 rfl) ?_
            refine wp_getR (ck_get kk_Mc_count 57 rfl) fl_Mc_12 (by assumption) (by assumption) ?_
            refine wp_iload_n rfl (ck_get kk_Mc_count 58 rfl) ?_
            refine wp_bipush (v := nI 11) (by decide) (ck_get kk_Mc_count 59 rfl) ?_
            refine wp_isubN (ck_get kk_Mc_count 60 rfl) (by omega) ?_
            refine wp_cV1i (ck_get kk_Mc_count 61 rfl) ml_Mc_175 (by omega) (Nat.le_of_ble_eq_true rfl) (by assumption) (Ci.to (c_term (s := zS z) (j := 1) (by omega) hSh hSC) ?_)
            rintro _ M1 ⟨rfl, eqm1⟩
            obtain rfl := eqm1.symm
            refine wp_goto (t := 168) (ck_get kk_Mc_count 62 rfl) (by decide) ?_
            refine wp_ireturn (ck_get kk_Mc_count 64 rfl) rfl rfl ⟨_, rfl, ?_⟩
            exact ⟨rfl, hC', MSame.refl _⟩
      · skip
        obtain ⟨hM, hSM, hUM, hIM, hDM, hPM, hNM, hBM⟩ := id h
        have to0 := hM.1
        have rfkept := MoAt.r hM 1 rfl
        have tfkept := MoAt.t hM 1 rfl
        refine cw_entry 0 pf_Mo_count rfl ?_
        refine wp_iload_n rfl (ck_get kk_Mo_count 0 rfl) ?_
        refine wp_tabIn (t := 146) (off := 145) (ck_get kk_Mo_count 1 rfl) (by decide) (by decide) rfl (by decide) ?_
        refine wp_aload_n rfl (ck_get kk_Mo_count 45 rfl) ?_
        refine wp_getR (ck_get kk_Mo_count 46 rfl) fl_Mo_28 (by assumption) (by assumption) ?_
        refine wp_iload_n rfl (ck_get kk_Mo_count 47 rfl) ?_
        refine wp_bipush (v := nI 11) (by decide) (ck_get kk_Mo_count 48 rfl) ?_
        refine wp_isubN (ck_get kk_Mo_count 49 rfl) (by omega) ?_
        refine wp_cS1i (ck_get kk_Mo_count 50 rfl) ml_Mo_176 (by omega) (Nat.le_of_ble_eq_true rfl) (Ci.to (m_termAt (j := 1) (by omega)) ?_)
        rintro _ M1 ⟨rfl, eqm1⟩
        obtain rfl := eqm1.symm
        refine wp_ialdv (v := nI (tvS (zS z) 1)) (ck_get kk_Mo_count 51 rfl) (by assumption) (ixk_nI (k := tmA 1) (by have := tmA_lt 1; omega) (by omega)) ((tm_at (by omega) hSM)) ?_
        refine wp_ireturn (ck_get kk_Mo_count 52 rfl) rfl rfl ⟨_, rfl, ?_⟩
        exact ⟨rfl, h, CSame.refl _⟩
    · refine ⟨nI (tvS (zS z) 2), z, hO.le (by omega), fun M h => ?_, fun M h => ?_⟩
      · skip
        have hC' := h.le (Nat.le_succ c)
        obtain ⟨pf, pg, hL, hSC, hTC, hIC, hDC, hPC, hNC, hBC, hZC⟩ := h
        obtain ⟨t0, ⟨r00, hSh⟩, ⟨r01, hTr⟩, ⟨r02, hTg⟩, ⟨r03, hWa⟩, ⟨r04, hWp⟩, ⟨r06, t921, r921a, r921b, hS0, hS1⟩, ⟨r07, t922⟩, ⟨r08, t923⟩, ⟨r010, hPa⟩, ⟨r011, hJu⟩, ⟨r012, hRe⟩, ⟨r013, hCu⟩, ⟨r014, hDe⟩, ⟨r018, t959⟩, hPf⟩ := id hL
        have t1 : mT M 1 = (6, 0) := hSh.1
        have r10 : mR M 1 0 = some 2 := hSh.2.1
        have hW2 : WoAt (mT M) (mR M) 2 := hSh.2.2.1
        have t2 : mT M 2 = (9, 0) := hW2.1
        have r20 : mR M 2 0 = some 3 := hW2.2.1
        have t3 : mT M 3 = (24, 4) := hW2.2.2.1
        have t31 : mT M 31 = (8, 0) := hTr.1
        have t924 : mT M 924 = (3, 0) := hPa.1
        have t934 : mT M 934 = (2, 0) := hJu.1
        have t938 : mT M 938 = (5, 0) := hRe.1
        have t947 : mT M 947 = (0, 0) := hCu.1
        have t952 : mT M 952 = (1, 0) := hDe.1
        refine cw_entry 0 pf_Mc_count rfl ?_
        refine wp_iload_n rfl (ck_get kk_Mc_count 0 rfl) ?_
        refine wp_tabOut (t := 141) (ck_get kk_Mc_count 1 rfl) (by decide) (by decide) ?_
        refine wp_iload_n rfl (ck_get kk_Mc_count 50 rfl) ?_
        refine wp_bipush (v := nI 11) (by decide) (ck_get kk_Mc_count 51 rfl) ?_
        first | refine wp_icmp_ltN (t := 167) (ck_get kk_Mc_count 52 rfl) (by decide) (by omega) (by omega) (fun hc144 => ?_) (fun hc144 => ?_) | refine wp_icmp_lt (t := 167) (ck_get kk_Mc_count 52 rfl) (by decide) (fun hc144 => ?_) (fun hc144 => ?_)
        · omega
        · refine wp_iload_n rfl (ck_get kk_Mc_count 53 rfl) ?_
          refine wp_bipush (v := nI 14) (by decide) (ck_get kk_Mc_count 54 rfl) ?_
          first | refine wp_icmp_gtN (t := 167) (ck_get kk_Mc_count 55 rfl) (by decide) (by omega) (by omega) (fun hc150 => ?_) (fun hc150 => ?_) | refine wp_icmp_gt (t := 167) (ck_get kk_Mc_count 55 rfl) (by decide) (fun hc150 => ?_) (fun hc150 => ?_)
          · omega
          · refine wp_aload_n rfl (ck_get kk_Mc_count 56 rfl) ?_
            refine wp_getR (ck_get kk_Mc_count 57 rfl) fl_Mc_12 (by assumption) (by assumption) ?_
            refine wp_iload_n rfl (ck_get kk_Mc_count 58 rfl) ?_
            refine wp_bipush (v := nI 11) (by decide) (ck_get kk_Mc_count 59 rfl) ?_
            refine wp_isubN (ck_get kk_Mc_count 60 rfl) (by omega) ?_
            refine wp_cV1i (ck_get kk_Mc_count 61 rfl) ml_Mc_175 (by omega) (Nat.le_of_ble_eq_true rfl) (by assumption) (Ci.to (c_term (s := zS z) (j := 2) (by omega) hSh hSC) ?_)
            rintro _ M1 ⟨rfl, eqm1⟩
            obtain rfl := eqm1.symm
            refine wp_goto (t := 168) (ck_get kk_Mc_count 62 rfl) (by decide) ?_
            refine wp_ireturn (ck_get kk_Mc_count 64 rfl) rfl rfl ⟨_, rfl, ?_⟩
            exact ⟨rfl, hC', MSame.refl _⟩
      · skip
        obtain ⟨hM, hSM, hUM, hIM, hDM, hPM, hNM, hBM⟩ := id h
        have to0 := hM.1
        have rfkept := MoAt.r hM 1 rfl
        have tfkept := MoAt.t hM 1 rfl
        refine cw_entry 0 pf_Mo_count rfl ?_
        refine wp_iload_n rfl (ck_get kk_Mo_count 0 rfl) ?_
        refine wp_tabIn (t := 146) (off := 145) (ck_get kk_Mo_count 1 rfl) (by decide) (by decide) rfl (by decide) ?_
        refine wp_aload_n rfl (ck_get kk_Mo_count 45 rfl) ?_
        refine wp_getR (ck_get kk_Mo_count 46 rfl) fl_Mo_28 (by assumption) (by assumption) ?_
        refine wp_iload_n rfl (ck_get kk_Mo_count 47 rfl) ?_
        refine wp_bipush (v := nI 11) (by decide) (ck_get kk_Mo_count 48 rfl) ?_
        refine wp_isubN (ck_get kk_Mo_count 49 rfl) (by omega) ?_
        refine wp_cS1i (ck_get kk_Mo_count 50 rfl) ml_Mo_176 (by omega) (Nat.le_of_ble_eq_true rfl) (Ci.to (m_termAt (j := 2) (by omega)) ?_)
        rintro _ M1 ⟨rfl, eqm1⟩
        obtain rfl := eqm1.symm
        refine wp_ialdv (v := nI (tvS (zS z) 2)) (ck_get kk_Mo_count 51 rfl) (by assumption) (ixk_nI (k := tmA 2) (by have := tmA_lt 2; omega) (by omega)) ((tm_at (by omega) hSM)) ?_
        refine wp_ireturn (ck_get kk_Mo_count 52 rfl) rfl rfl ⟨_, rfl, ?_⟩
        exact ⟨rfl, h, CSame.refl _⟩
    · refine ⟨nI (tvS (zS z) 3), z, hO.le (by omega), fun M h => ?_, fun M h => ?_⟩
      · skip
        have hC' := h.le (Nat.le_succ c)
        obtain ⟨pf, pg, hL, hSC, hTC, hIC, hDC, hPC, hNC, hBC, hZC⟩ := h
        obtain ⟨t0, ⟨r00, hSh⟩, ⟨r01, hTr⟩, ⟨r02, hTg⟩, ⟨r03, hWa⟩, ⟨r04, hWp⟩, ⟨r06, t921, r921a, r921b, hS0, hS1⟩, ⟨r07, t922⟩, ⟨r08, t923⟩, ⟨r010, hPa⟩, ⟨r011, hJu⟩, ⟨r012, hRe⟩, ⟨r013, hCu⟩, ⟨r014, hDe⟩, ⟨r018, t959⟩, hPf⟩ := id hL
        have t1 : mT M 1 = (6, 0) := hSh.1
        have r10 : mR M 1 0 = some 2 := hSh.2.1
        have hW2 : WoAt (mT M) (mR M) 2 := hSh.2.2.1
        have t2 : mT M 2 = (9, 0) := hW2.1
        have r20 : mR M 2 0 = some 3 := hW2.2.1
        have t3 : mT M 3 = (24, 4) := hW2.2.2.1
        have t31 : mT M 31 = (8, 0) := hTr.1
        have t924 : mT M 924 = (3, 0) := hPa.1
        have t934 : mT M 934 = (2, 0) := hJu.1
        have t938 : mT M 938 = (5, 0) := hRe.1
        have t947 : mT M 947 = (0, 0) := hCu.1
        have t952 : mT M 952 = (1, 0) := hDe.1
        refine cw_entry 0 pf_Mc_count rfl ?_
        refine wp_iload_n rfl (ck_get kk_Mc_count 0 rfl) ?_
        refine wp_tabOut (t := 141) (ck_get kk_Mc_count 1 rfl) (by decide) (by decide) ?_
        refine wp_iload_n rfl (ck_get kk_Mc_count 50 rfl) ?_
        refine wp_bipush (v := nI 11) (by decide) (ck_get kk_Mc_count 51 rfl) ?_
        first | refine wp_icmp_ltN (t := 167) (ck_get kk_Mc_count 52 rfl) (by decide) (by omega) (by omega) (fun hc144 => ?_) (fun hc144 => ?_) | refine wp_icmp_lt (t := 167) (ck_get kk_Mc_count 52 rfl) (by decide) (fun hc144 => ?_) (fun hc144 => ?_)
        · omega
        · refine wp_iload_n rfl (ck_get kk_Mc_count 53 rfl) ?_
          refine wp_bipush (v := nI 14) (by decide) (ck_get kk_Mc_count 54 rfl) ?_
          first | refine wp_icmp_gtN (t := 167) (ck_get kk_Mc_count 55 rfl) (by decide) (by omega) (by omega) (fun hc150 => ?_) (fun hc150 => ?_) | refine wp_icmp_gt (t := 167) (ck_get kk_Mc_count 55 rfl) (by decide) (fun hc150 => ?_) (fun hc150 => ?_)
          · omega
          · refine wp_aload_n rfl (ck_get kk_Mc_count 56 rfl) ?_
            refine wp_getR (ck_get kk_Mc_count 57 rfl) fl_Mc_12 (by assumption) (by assumption) ?_
            refine wp_iload_n rfl (ck_get kk_Mc_count 58 rfl) ?_
            refine wp_bipush (v := nI 11) (by decide) (ck_get kk_Mc_count 59 rfl) ?_
            refine wp_isubN (ck_get kk_Mc_count 60 rfl) (by omega) ?_
            refine wp_cV1i (ck_get kk_Mc_count 61 rfl) ml_Mc_175 (by omega) (Nat.le_of_ble_eq_true rfl) (by assumption) (Ci.to (c_term (s := zS z) (j := 3) (by omega) hSh hSC) ?_)
            rintro _ M1 ⟨rfl, eqm1⟩
            obtain rfl := eqm1.symm
            refine wp_goto (t := 168) (ck_get kk_Mc_count 62 rfl) (by decide) ?_
            refine wp_ireturn (ck_get kk_Mc_count 64 rfl) rfl rfl ⟨_, rfl, ?_⟩
            exact ⟨rfl, hC', MSame.refl _⟩
      · skip
        obtain ⟨hM, hSM, hUM, hIM, hDM, hPM, hNM, hBM⟩ := id h
        have to0 := hM.1
        have rfkept := MoAt.r hM 1 rfl
        have tfkept := MoAt.t hM 1 rfl
        refine cw_entry 0 pf_Mo_count rfl ?_
        refine wp_iload_n rfl (ck_get kk_Mo_count 0 rfl) ?_
        refine wp_tabIn (t := 146) (off := 145) (ck_get kk_Mo_count 1 rfl) (by decide) (by decide) rfl (by decide) ?_
        refine wp_aload_n rfl (ck_get kk_Mo_count 45 rfl) ?_
        refine wp_getR (ck_get kk_Mo_count 46 rfl) fl_Mo_28 (by assumption) (by assumption) ?_
        refine wp_iload_n rfl (ck_get kk_Mo_count 47 rfl) ?_
        refine wp_bipush (v := nI 11) (by decide) (ck_get kk_Mo_count 48 rfl) ?_
        refine wp_isubN (ck_get kk_Mo_count 49 rfl) (by omega) ?_
        refine wp_cS1i (ck_get kk_Mo_count 50 rfl) ml_Mo_176 (by omega) (Nat.le_of_ble_eq_true rfl) (Ci.to (m_termAt (j := 3) (by omega)) ?_)
        rintro _ M1 ⟨rfl, eqm1⟩
        obtain rfl := eqm1.symm
        refine wp_ialdv (v := nI (tvS (zS z) 3)) (ck_get kk_Mo_count 51 rfl) (by assumption) (ixk_nI (k := tmA 3) (by have := tmA_lt 3; omega) (by omega)) ((tm_at (by omega) hSM)) ?_
        refine wp_ireturn (ck_get kk_Mo_count 52 rfl) rfl rfl ⟨_, rfl, ?_⟩
        exact ⟨rfl, h, CSame.refl _⟩
  · refine ⟨-1, z, hO.le (by omega), fun M h => ?_, fun M h => ?_⟩
    · skip
      have hC' := h.le (Nat.le_succ c)
      obtain ⟨pf, pg, hL, hSC, hTC, hIC, hDC, hPC, hNC, hBC, hZC⟩ := h
      obtain ⟨t0, ⟨r00, hSh⟩, ⟨r01, hTr⟩, ⟨r02, hTg⟩, ⟨r03, hWa⟩, ⟨r04, hWp⟩, ⟨r06, t921, r921a, r921b, hS0, hS1⟩, ⟨r07, t922⟩, ⟨r08, t923⟩, ⟨r010, hPa⟩, ⟨r011, hJu⟩, ⟨r012, hRe⟩, ⟨r013, hCu⟩, ⟨r014, hDe⟩, ⟨r018, t959⟩, hPf⟩ := id hL
      have t1 : mT M 1 = (6, 0) := hSh.1
      have r10 : mR M 1 0 = some 2 := hSh.2.1
      have hW2 : WoAt (mT M) (mR M) 2 := hSh.2.2.1
      have t2 : mT M 2 = (9, 0) := hW2.1
      have r20 : mR M 2 0 = some 3 := hW2.2.1
      have t3 : mT M 3 = (24, 4) := hW2.2.2.1
      have t31 : mT M 31 = (8, 0) := hTr.1
      have t924 : mT M 924 = (3, 0) := hPa.1
      have t934 : mT M 934 = (2, 0) := hJu.1
      have t938 : mT M 938 = (5, 0) := hRe.1
      have t947 : mT M 947 = (0, 0) := hCu.1
      have t952 : mT M 952 = (1, 0) := hDe.1
      refine cw_entry 0 pf_Mc_count rfl ?_
      refine wp_iload_n rfl (ck_get kk_Mc_count 0 rfl) ?_
      refine wp_tabOut (t := 141) (ck_get kk_Mc_count 1 rfl) (by omega) (by decide) ?_
      refine wp_iload_n rfl (ck_get kk_Mc_count 50 rfl) ?_
      refine wp_bipush (v := nI 11) (by decide) (ck_get kk_Mc_count 51 rfl) ?_
      refine wp_icmp_lt (t := 167) (ck_get kk_Mc_count 52 rfl) (by decide) (fun hc144 => ?_) (fun hc144 => ?_)
      · refine wp_iconst (v := (-1)) (by decide) (ck_get kk_Mc_count 63 rfl) ?_
        refine wp_ireturn (ck_get kk_Mc_count 64 rfl) rfl rfl ⟨_, rfl, ?_⟩
        exact ⟨rfl, hC', MSame.refl _⟩
      · refine wp_iload_n rfl (ck_get kk_Mc_count 53 rfl) ?_
        refine wp_bipush (v := nI 14) (by decide) (ck_get kk_Mc_count 54 rfl) ?_
        refine wp_icmp_gt (t := 167) (ck_get kk_Mc_count 55 rfl) (by decide) (fun hc150 => ?_) (fun hc150 => ?_)
        · refine wp_iconst (v := (-1)) (by decide) (ck_get kk_Mc_count 63 rfl) ?_
          refine wp_ireturn (ck_get kk_Mc_count 64 rfl) rfl rfl ⟨_, rfl, ?_⟩
          exact ⟨rfl, hC', MSame.refl _⟩
        · exfalso
          have q1 := mt Int32.lt_iff_toInt_lt.mpr hc144
          have q2 := mt Int32.lt_iff_toInt_lt.mpr hc150
          rw [nI_toInt (by omega)] at q1 q2
          omega
    · skip
      obtain ⟨hM, hSM, hUM, hIM, hDM, hPM, hNM, hBM⟩ := id h
      have to0 := hM.1
      refine cw_entry 0 pf_Mo_count rfl ?_
      refine wp_iload_n rfl (ck_get kk_Mo_count 0 rfl) ?_
      refine wp_tabOut (t := 159) (ck_get kk_Mo_count 1 rfl) (by omega) (by decide) ?_
      refine wp_iconst (v := (-1)) (by decide) (ck_get kk_Mo_count 53 rfl) ?_
      refine wp_ireturn (ck_get kk_Mo_count 54 rfl) rfl rfl ⟨_, rfl, ?_⟩
      exact ⟨rfl, h, CSame.refl _⟩
end CNT
