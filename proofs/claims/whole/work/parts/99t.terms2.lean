/-! ===== terms ===== -/
section TRN
variable {g : Gl} {M : Mem}
theorem c_setTerm {s : SH} {j v : Nat} (hj : j < 4) (hA : ShAt (mT M) (mR M) 1) (hS : ShC (mT M) (mR M) (mI M) (mJ M) 1 s) : Cv g Y_Sh_setTerm 2 [.ref 1, .int (nI j), .int (nI v)] M (fun M2 => ∃ I2 J2, M2 = mk2 M I2 J2 ∧ ShC (mT M) (mR M) I2 J2 1 (setS s j v) ∧ ∀ x, x < 1 ∨ 31 ≤ x → I2 x = mI M x ∧ J2 x = mJ M x) := by
  have t1 := hA.1
  have r10 : mR M 1 0 = some 2 := hA.2.1
  have t2 : mT M 2 = (9, 0) := hA.2.2.1.1
  obtain ⟨s1, s2, s3, s4, s5, s6, s7, s8, s9, s10, s11⟩ := id hS
  refine cw_entry 1 pf_Sh_setTerm rfl ?_
  rcases (show j = 0 ∨ j = 1 ∨ j = 2 ∨ j = 3 by omega) with rfl | rfl | rfl | rfl
  · skip
    refine wp_iload_n rfl (ck_get kk_Sh_setTerm 0 rfl) ?_
    refine wp_tabIn (t := 28) (off := 27) (ck_get kk_Sh_setTerm 1 rfl) (by decide) (by decide) rfl (by decide) ?_
    refine wp_aload_n rfl (ck_get kk_Sh_setTerm 2 rfl) ?_
    refine wp_getR (ck_get kk_Sh_setTerm 3 rfl) fl_Sh_12 (by assumption) (by assumption) ?_
    refine wp_iload_n rfl (ck_get kk_Sh_setTerm 4 rfl) ?_
    refine wp_putI (ck_get kk_Sh_setTerm 5 rfl) fl_Sh_57 (by decide +kernel) (by assumption) (okI_int _) ?_
    refine wp_goto (t := 85) (ck_get kk_Sh_setTerm 6 rfl) (by decide) ?_
    refine wp_return (ck_get kk_Sh_setTerm 31 rfl) rfl ⟨rfl, ?_⟩
    refine ⟨_, _, rfl, ?_, fun x hx => ⟨up2_o (by omega), rfl⟩⟩
    refine hS.wo (w := (v, (sWo s).2)) ⟨up2_v, fun t ht => (s1.2 t ht).kept (fun x q1 q2 => ⟨up2_o (by omega), rfl⟩)⟩ ⟨up2_o (by omega), up2_o (by omega), up2_o (by omega)⟩ rfl (HiK.same (fun x hx => up2_o (by omega)))
  · skip
    refine wp_iload_n rfl (ck_get kk_Sh_setTerm 0 rfl) ?_
    refine wp_tabIn (t := 39) (off := 38) (ck_get kk_Sh_setTerm 1 rfl) (by decide) (by decide) rfl (by decide) ?_
    refine wp_aload_n rfl (ck_get kk_Sh_setTerm 7 rfl) ?_
    refine wp_iload_n rfl (ck_get kk_Sh_setTerm 8 rfl) ?_
    refine wp_putI (ck_get kk_Sh_setTerm 9 rfl) fl_Sh_22 (by decide +kernel) (by assumption) (okI_int _) ?_
    refine wp_goto (t := 85) (ck_get kk_Sh_setTerm 10 rfl) (by decide) ?_
    refine wp_return (ck_get kk_Sh_setTerm 31 rfl) rfl ⟨rfl, ?_⟩
    refine ⟨_, _, rfl, ?_, fun x hx => ⟨up2_o (by omega), rfl⟩⟩
    have hk : HiK (mT M) (mR M) (mI M) (mT M) (mR M) (up2 (mI M) 1 2 (nI v)) := HiK.same (fun x hx => up2_o (by omega))
    refine ⟨s1.kept (fun x q1 q2 => ⟨up2_o (by omega), rfl⟩), by rw [up2_k (by omega)]; exact s2, up2_v, by rw [up2_k (by omega)]; exact s4, by rw [up2_k (by omega)]; exact s5, by rw [up2_k (by omega)]; exact s6, fun i hi => by rw [up2_o (by omega), up2_o (by omega)]; exact s7 i hi, by rw [up2_k (by omega)]; exact s8, by rw [up2_k (by omega)]; exact s9, s10.kept rfl hk, fun i hi => ?_⟩
    obtain ⟨p, q1, q2⟩ := s11 i hi
    exact ⟨p, q1, q2.kept hk⟩
  · skip
    refine wp_iload_n rfl (ck_get kk_Sh_setTerm 0 rfl) ?_
    refine wp_tabIn (t := 47) (off := 46) (ck_get kk_Sh_setTerm 1 rfl) (by decide) (by decide) rfl (by decide) ?_
    refine wp_aload_n rfl (ck_get kk_Sh_setTerm 11 rfl) ?_
    refine wp_iload_n rfl (ck_get kk_Sh_setTerm 12 rfl) ?_
    refine wp_putI (ck_get kk_Sh_setTerm 13 rfl) fl_Sh_25 (by decide +kernel) (by assumption) (okI_int _) ?_
    refine wp_goto (t := 85) (ck_get kk_Sh_setTerm 14 rfl) (by decide) ?_
    refine wp_return (ck_get kk_Sh_setTerm 31 rfl) rfl ⟨rfl, ?_⟩
    refine ⟨_, _, rfl, ?_, fun x hx => ⟨up2_o (by omega), rfl⟩⟩
    have hk : HiK (mT M) (mR M) (mI M) (mT M) (mR M) (up2 (mI M) 1 3 (nI v)) := HiK.same (fun x hx => up2_o (by omega))
    refine ⟨s1.kept (fun x q1 q2 => ⟨up2_o (by omega), rfl⟩), by rw [up2_k (by omega)]; exact s2, by rw [up2_k (by omega)]; exact s3, up2_v, by rw [up2_k (by omega)]; exact s5, by rw [up2_k (by omega)]; exact s6, fun i hi => by rw [up2_o (by omega), up2_o (by omega)]; exact s7 i hi, by rw [up2_k (by omega)]; exact s8, by rw [up2_k (by omega)]; exact s9, s10.kept rfl hk, fun i hi => ?_⟩
    obtain ⟨p, q1, q2⟩ := s11 i hi
    exact ⟨p, q1, q2.kept hk⟩
  · skip
    refine wp_iload_n rfl (ck_get kk_Sh_setTerm 0 rfl) ?_
    refine wp_tabOut (t := 55) (ck_get kk_Sh_setTerm 1 rfl) (by decide) (by decide) ?_
    refine wp_aload_n rfl (ck_get kk_Sh_setTerm 15 rfl) ?_
    refine wp_iload_n rfl (ck_get kk_Sh_setTerm 16 rfl) ?_
    refine wp_putI (ck_get kk_Sh_setTerm 17 rfl) fl_Sh_28 (by decide +kernel) (by assumption) (okI_int _) ?_
    refine wp_iconst (v := nI 0) (by decide) (ck_get kk_Sh_setTerm 18 rfl) ?_
    refine wp_istore_n (ck_get kk_Sh_setTerm 19 rfl) (by decide) rfl ?_
    have hW : WoHas (up2 (mI M) 1 4 (nI v)) (mJ M) 2 (emK (sWo s) 0) := by
      rw [emK_0]; exact s1.kept (fun x q1 q2 => ⟨up2_o (by omega), rfl⟩)
    refine (l_setSalt (M := M) (w := sWo s) (by exact hA) 4 0 _ _ (by omega) hW).mono ?_
    rintro r M3 ⟨rfl, I3, J3, rfl, f1, f2⟩
    refine ⟨rfl, I3, J3, rfl, ?_, fun x hx => ⟨(f2 x (by omega)).1.trans (up2_o (by omega)), (f2 x (by omega)).2⟩⟩
    have hk : HiK (mT M) (mR M) (mI M) (mT M) (mR M) I3 := HiK.same (fun x hx => ((f2 x (by omega)).1.trans (up2_o (by omega))))
    have e1 : I3 1 = up2 (mI M) 1 4 (nI v) 1 := (f2 1 (by omega)).1
    refine ⟨f1.w4 rfl (fun t ht => if_pos ht), by rw [e1, up2_k (by omega)]; exact s2, by rw [e1, up2_k (by omega)]; exact s3, by rw [e1, up2_k (by omega)]; exact s4, by rw [e1, up2_v]; rfl, by rw [e1, up2_k (by omega)]; exact s6, fun i hi => ?_, by rw [e1, up2_k (by omega)]; exact s8, by rw [e1, up2_k (by omega)]; exact s9, s10.kept rfl hk, fun i hi => ?_⟩
    · rw [(f2 (1 + 27) (by omega)).1, (f2 (1 + 28) (by omega)).1, up2_o (by omega), up2_o (by omega)]; exact s7 i hi
    · obtain ⟨p, q1, q2⟩ := s11 i hi
      exact ⟨p, q1, q2.kept hk⟩
theorem c_mostOf {j : Nat} (hj : j < 4) : Ci g Y_Mc_mostOfTerm 0 [.int (nI j)] M (fun x M2 => x = nI (mxT j) ∧ M2 = M) := by
  refine cw_entry 0 pf_Mc_mostOfTerm rfl ?_
  rcases (show j = 0 ∨ j = 1 ∨ j = 2 ∨ j = 3 by omega) with rfl | rfl | rfl | rfl
  · skip
    refine wp_iload_n rfl (ck_get kk_Mc_mostOfTerm 0 rfl) ?_
    refine wp_tabIn (t := 32) (off := 31) (ck_get kk_Mc_mostOfTerm 1 rfl) (by decide) (by decide) rfl (by decide) ?_
    refine wp_sipush (v := nI 999) (by decide) (ck_get kk_Mc_mostOfTerm 2 rfl) ?_
    refine wp_ireturn (ck_get kk_Mc_mostOfTerm 3 rfl) rfl rfl ⟨_, rfl, ?_⟩
    exact ⟨rfl, rfl⟩
  · skip
    refine wp_iload_n rfl (ck_get kk_Mc_mostOfTerm 0 rfl) ?_
    refine wp_tabIn (t := 36) (off := 35) (ck_get kk_Mc_mostOfTerm 1 rfl) (by decide) (by decide) rfl (by decide) ?_
    refine wp_bipush (v := nI 10) (by decide) (ck_get kk_Mc_mostOfTerm 4 rfl) ?_
    refine wp_ireturn (ck_get kk_Mc_mostOfTerm 5 rfl) rfl rfl ⟨_, rfl, ?_⟩
    exact ⟨rfl, rfl⟩
  · skip
    refine wp_iload_n rfl (ck_get kk_Mc_mostOfTerm 0 rfl) ?_
    refine wp_tabIn (t := 39) (off := 38) (ck_get kk_Mc_mostOfTerm 1 rfl) (by decide) (by decide) rfl (by decide) ?_
    refine wp_bipush (v := nI 9) (by decide) (ck_get kk_Mc_mostOfTerm 6 rfl) ?_
    refine wp_ireturn (ck_get kk_Mc_mostOfTerm 7 rfl) rfl rfl ⟨_, rfl, ?_⟩
    exact ⟨rfl, rfl⟩
  · skip
    refine wp_iload_n rfl (ck_get kk_Mc_mostOfTerm 0 rfl) ?_
    refine wp_tabIn (t := 32) (off := 31) (ck_get kk_Mc_mostOfTerm 1 rfl) (by decide) (by decide) rfl (by decide) ?_
    refine wp_sipush (v := nI 999) (by decide) (ck_get kk_Mc_mostOfTerm 2 rfl) ?_
    refine wp_ireturn (ck_get kk_Mc_mostOfTerm 3 rfl) rfl rfl ⟨_, rfl, ?_⟩
    exact ⟨rfl, rfl⟩
theorem m_isTerm {j : Nat} {v : Int32} (hj : j < 4) : Ci g Y_Mo_isTerm 1 [.int (nI j), .int v] M (fun x M2 => x = bI (inB v (mxT j + 1)) ∧ M2 = M) := by
  refine cw_entry 0 pf_Mo_isTerm rfl ?_
  rcases (show j = 0 ∨ j = 1 ∨ j = 2 ∨ j = 3 by omega) with rfl | rfl | rfl | rfl
  · skip
    refine wp_iload_n rfl (ck_get kk_Mo_isTerm 0 rfl) ?_
    refine wp_tabIn (t := 32) (off := 31) (ck_get kk_Mo_isTerm 1 rfl) (by decide) (by decide) rfl (by decide) ?_
    refine wp_iload_n rfl (ck_get kk_Mo_isTerm 2 rfl) ?_
    refine wp_iconst (v := nI 0) (by decide) (ck_get kk_Mo_isTerm 3 rfl) ?_
    refine wp_sipush (v := nI 999) (by decide) (ck_get kk_Mo_isTerm 4 rfl) ?_
    refine wp_cS3i (ck_get kk_Mo_isTerm 5 rfl) ml_Mo_18 (by omega) (Nat.le_of_ble_eq_true rfl) (Ci.to (m_lies (by decide)) ?_)
    rintro _ M1 ⟨rfl, eqm1⟩
    obtain rfl := eqm1.symm
    refine wp_ireturn (ck_get kk_Mo_isTerm 6 rfl) rfl (bI_ok _) ⟨_, rfl, ?_⟩
    exact ⟨rfl, rfl⟩
  · skip
    refine wp_iload_n rfl (ck_get kk_Mo_isTerm 0 rfl) ?_
    refine wp_tabIn (t := 41) (off := 40) (ck_get kk_Mo_isTerm 1 rfl) (by decide) (by decide) rfl (by decide) ?_
    refine wp_iload_n rfl (ck_get kk_Mo_isTerm 7 rfl) ?_
    refine wp_iconst (v := nI 0) (by decide) (ck_get kk_Mo_isTerm 8 rfl) ?_
    refine wp_bipush (v := nI 10) (by decide) (ck_get kk_Mo_isTerm 9 rfl) ?_
    refine wp_cS3i (ck_get kk_Mo_isTerm 10 rfl) ml_Mo_18 (by omega) (Nat.le_of_ble_eq_true rfl) (Ci.to (m_lies (by decide)) ?_)
    rintro _ M1 ⟨rfl, eqm1⟩
    obtain rfl := eqm1.symm
    refine wp_ireturn (ck_get kk_Mo_isTerm 11 rfl) rfl (bI_ok _) ⟨_, rfl, ?_⟩
    exact ⟨rfl, rfl⟩
  · skip
    refine wp_iload_n rfl (ck_get kk_Mo_isTerm 0 rfl) ?_
    refine wp_tabIn (t := 49) (off := 48) (ck_get kk_Mo_isTerm 1 rfl) (by decide) (by decide) rfl (by decide) ?_
    refine wp_iload_n rfl (ck_get kk_Mo_isTerm 12 rfl) ?_
    refine wp_iconst (v := nI 0) (by decide) (ck_get kk_Mo_isTerm 13 rfl) ?_
    refine wp_bipush (v := nI 9) (by decide) (ck_get kk_Mo_isTerm 14 rfl) ?_
    refine wp_cS3i (ck_get kk_Mo_isTerm 15 rfl) ml_Mo_18 (by omega) (Nat.le_of_ble_eq_true rfl) (Ci.to (m_lies (by decide)) ?_)
    rintro _ M1 ⟨rfl, eqm1⟩
    obtain rfl := eqm1.symm
    refine wp_ireturn (ck_get kk_Mo_isTerm 16 rfl) rfl (bI_ok _) ⟨_, rfl, ?_⟩
    exact ⟨rfl, rfl⟩
  · skip
    refine wp_iload_n rfl (ck_get kk_Mo_isTerm 0 rfl) ?_
    refine wp_tabIn (t := 57) (off := 56) (ck_get kk_Mo_isTerm 1 rfl) (by decide) (by decide) rfl (by decide) ?_
    refine wp_iload_n rfl (ck_get kk_Mo_isTerm 17 rfl) ?_
    refine wp_iconst (v := nI 0) (by decide) (ck_get kk_Mo_isTerm 18 rfl) ?_
    refine wp_sipush (v := nI 999) (by decide) (ck_get kk_Mo_isTerm 19 rfl) ?_
    refine wp_cS3i (ck_get kk_Mo_isTerm 20 rfl) ml_Mo_18 (by omega) (Nat.le_of_ble_eq_true rfl) (Ci.to (m_lies (by decide)) ?_)
    rintro _ M1 ⟨rfl, eqm1⟩
    obtain rfl := eqm1.symm
    refine wp_ireturn (ck_get kk_Mo_isTerm 21 rfl) rfl (bI_ok _) ⟨_, rfl, ?_⟩
    exact ⟨rfl, rfl⟩
theorem m_settledT {v : Int32} {z : ST} (h : MR z M) : Ci g Y_Mo_settled 1 [.ref 1020, .int v] M (fun x M2 => x = v ∧ MR (zGood (zS z, (0, (zU z).2), z.2.2)) M2 ∧ CSame M M2) := by
  refine (m_settled h.1).to ?_
  rintro x M2 ⟨rfl, rfl⟩
  have e : mk2 M (up2 (up2 (mI M) 1020 36 (nI 0)) 1020 0 (nI 0)) (mJ M) = gdM (sI (ubM M 1020 (mI M 1036) (mJ M 1037)) 1020 36 (nI 0)) 1020 := by
    refine mk2_ext (M := M) ?_ ?_
    · show _ = up2 (up2 (up1 (mI M) (1020 + 16) (mI M 1036)) 1020 36 (nI 0)) 1020 0 (nI 0)
      rw [show up1 (mI M) (1020 + 16) (mI M 1036) = mI M from up1_id rfl]
    · exact (up1_id rfl).symm
  refine ⟨rfl, ?_, ?_⟩
  · rw [e]
    exact (h.ub (u2 := (0, (zU z).2)) (fun i hi => absurd hi (Nat.not_lt_zero i))).good
  · exact CSame.mk2 (fun x q => ⟨by rw [up2_o (by omega), up2_o (by omega)], rfl⟩)
/-- the class: nothing can be undone any more -/
theorem CR.clear {c : Nat} {z : ST} (h : CR c z M) : CR c (zS z, (0, (zU z).2), z.2.2) (sI (sI M 31 2 (nI 0)) 31 3 (nI 0)) := by
  obtain ⟨pf, pg, hL, h1, h2, h3, h4, h5, h6, h7, h8⟩ := h
  have eI : ∀ x, x ≠ 31 → up2 (up2 (mI M) 31 2 (nI 0)) 31 3 (nI 0) x = mI M x ∧ mJ M x = mJ M x := fun x hx => ⟨by rw [up2_o hx, up2_o hx], rfl⟩
  have hk : HiK (mT M) (mR M) (mI M) (mT M) (mR M) (up2 (up2 (mI M) 31 2 (nI 0)) 31 3 (nI 0)) := HiK.same (fun x hx => (eI x (by omega)).1)
  refine ⟨pf, pg, hL, h1.kept (fun x q1 q2 => eI x (by omega)) rfl hk, ⟨0, ?_⟩, h3.kept (eI 922 (by omega)).1 (fun x q1 q2 => eI x (by omega)) ⟨rfl, rfl⟩ hk, h4.kept (congrFun (eI 0 (by omega)).1 5) (fun x q1 q2 => eI x (by omega)), h5.kept (congrFun (eI 0 (by omega)).1 9) (eI 923 (by omega)).1, h6.kept ⟨congrFun (eI 0 (by omega)).1 15, congrFun (eI 0 (by omega)).1 16, congrFun (eI 0 (by omega)).1 17⟩ (congrFun (eI 924 (by omega)).1 1) (eI 959 (by omega)).1, h7.kept rfl (eI 949 (by omega)).1 (fun v hv _ => ⟨rfl, (eI v (by omega)).1⟩), h8⟩
  refine ⟨?_, by omega, (up2_v : up2 (up2 (mI M) 31 2 (nI 0)) 31 3 (nI 0) 31 3 = nI 0), Nat.zero_le _, fun i hi => absurd hi (Nat.not_lt_zero i)⟩
  show up2 (up2 (mI M) 31 2 (nI 0)) 31 3 (nI 0) 31 2 = nI 0
  rw [up2_k (by omega), up2_v]
theorem ZOK.clear {c : Nat} {z : ST} (h : ZOK c z) : ZOK c (zS z, (0, (zU z).2), z.2.2) := ⟨h.1, ⟨Nat.zero_le _, fun i hi => absurd hi (Nat.not_lt_zero i)⟩, h.2.2⟩
theorem mxT_le (j : Nat) : mxT j ≤ 999 := by unfold mxT; split; omega; split; omega; split <;> omega
theorem b_terms {w v : Int32} : Both g Y_Mc_terms Y_Mo_terms [.int w, .int v] := by
  intro c z hc hO
  rcases i32c w 4 (by omega) with ⟨j, hj, rfl⟩ | ⟨bw, hw⟩
  · have hm := mxT_le j
    rcases i32c v (mxT j + 1) (by omega) with ⟨q, hq, rfl⟩ | ⟨bv, hv⟩
    · refine ⟨nI (tvS (zS z) j), zGood (setS (zS z) j q, (0, (zU z).2), z.2.2), ZOK.good ?_, fun M h => ?_, fun M h => ?_⟩
      · have h1 := (hO.le (Nat.le_succ c)).clear
        exact ⟨h1.1.set hj (by omega), h1.2⟩
      · have hCR := h
        have hC' := h.le (Nat.le_succ c)
        obtain ⟨pf, pg, hL, hSC, hTC, hIC, hDC, hPC, hNC, hBC, hZC⟩ := h
        obtain ⟨t0, ⟨r00, hSh⟩, ⟨r01, hTr⟩, ⟨r02, hTg⟩, ⟨r03, hWa⟩, ⟨r04, hWp⟩, ⟨r06, t921, r921a, r921b, hS0, hS1⟩, ⟨r07, t922⟩, ⟨r08, t923⟩, ⟨r010, hPa⟩, ⟨r011, hJu⟩, ⟨r012, hRe⟩, ⟨r013, hCu⟩, ⟨r014, hDe⟩, ⟨r018, t959⟩, hPf⟩ := id hL
        have t1 : mT M 1 = (6, 0) := hSh.1
        have r10 : mR M 1 0 = some 2 := hSh.2.1
        have hW2 : WoAt (mT M) (mR M) 2 := hSh.2.2.1
        have t2 : mT M 2 = (9, 0) := hW2.1
        have r20 : mR M 2 0 = some 3 := hW2.2.1
        have t3 : mT M 3 = (24, 4) := hW2.2.2.1
        have t31 : mT M 31 = (8, 0) := hTr.1
        have t924 : mT M 924 = (3, 0) := hPa.1
        have t934 : mT M 934 = (2, 0) := hJu.1
        have t938 : mT M 938 = (5, 0) := hRe.1
        have t947 : mT M 947 = (0, 0) := hCu.1
        have t952 : mT M 952 = (1, 0) := hDe.1
        refine cw_entry 1 pf_Mc_terms rfl ?_
        refine wp_iload_n rfl (ck_get kk_Mc_terms 0 rfl) ?_
        first | refine wp_if_ltN (t := 12) (ck_get kk_Mc_terms 1 rfl) (by decide) (by omega) (fun hc1 => ?_) (fun hc1 => ?_) | refine wp_if_lt (t := 12) (ck_get kk_Mc_terms 1 rfl) (by decide) (fun hc1 => ?_) (fun hc1 => ?_)
        · exact hc1.elim
        · refine wp_iload_n rfl (ck_get kk_Mc_terms 2 rfl) ?_
          refine wp_iload_n rfl (ck_get kk_Mc_terms 3 rfl) ?_
          refine wp_cS1i (ck_get kk_Mc_terms 4 rfl) ml_Mc_168 (by omega) (Nat.le_of_ble_eq_true rfl) (Ci.to (c_mostOf hj) ?_)
          rintro _ M1 ⟨rfl, eqm1⟩
          obtain rfl := eqm1.symm
          first | refine wp_icmp_leN (t := 18) (ck_get kk_Mc_terms 5 rfl) (by decide) (by omega) (by omega) (fun hc9 => ?_) (fun hc9 => ?_) | refine wp_icmp_le (t := 18) (ck_get kk_Mc_terms 5 rfl) (by decide) (fun hc9 => ?_) (fun hc9 => ?_)
          · refine wp_aload_n rfl (ck_get kk_Mc_terms 10 rfl) ?_
            refine wp_getR (ck_get kk_Mc_terms 11 rfl) fl_Mc_12 (by assumption) (by assumption) ?_
            refine wp_iload_n rfl (ck_get kk_Mc_terms 12 rfl) ?_
            refine wp_cV1i (ck_get kk_Mc_terms 13 rfl) ml_Mc_175 (by omega) (Nat.le_of_ble_eq_true rfl) (by assumption) (Ci.to (c_term (s := zS z) hj hSh hSC) ?_)
            rintro _ M1 ⟨rfl, eqm1⟩
            obtain rfl := eqm1.symm
            refine wp_istore_n (ck_get kk_Mc_terms 14 rfl) (by decide) rfl ?_
            refine wp_aload_n rfl (ck_get kk_Mc_terms 15 rfl) ?_
            refine wp_getR (ck_get kk_Mc_terms 16 rfl) fl_Mc_12 (by assumption) (by assumption) ?_
            refine wp_iload_n rfl (ck_get kk_Mc_terms 17 rfl) ?_
            refine wp_iload_n rfl (ck_get kk_Mc_terms 18 rfl) ?_
            refine wp_cV2v (ck_get kk_Mc_terms 19 rfl) ml_Mc_178 (by omega) (Nat.le_of_ble_eq_true rfl) (by assumption) (Cv.to (c_setTerm (s := zS z) hj hSh hSC) ?_)
            rintro M1 ⟨I2, J2, e1, e2, e3⟩
            obtain rfl := e1
            refine wp_aload_n rfl (ck_get kk_Mc_terms 20 rfl) ?_
            refine wp_getR (ck_get kk_Mc_terms 21 rfl) fl_Mc_19 (by assumption) (by assumption) ?_
            refine wp_cV0v (ck_get kk_Mc_terms 22 rfl) ml_Mc_182 (by omega) (Nat.le_of_ble_eq_true rfl) (by assumption) (Cv.to (c_Trclear (by exact hTr)) ?_)
            rintro M1 e4
            obtain rfl := e4
            refine wp_aload_n rfl (ck_get kk_Mc_terms 23 rfl) ?_
            refine wp_iload_n rfl (ck_get kk_Mc_terms 24 rfl) ?_
            refine wp_cV1i (ck_get kk_Mc_terms 25 rfl) ml_Mc_185 (by omega) (Nat.le_of_ble_eq_true rfl) (by assumption) (Ci.to (c_accept (pf := pf) (pg := pg) (by exact hL)) ?_)
            rintro x M1 ⟨e5, e6⟩
            refine wp_ireturn (ck_get kk_Mc_terms 26 rfl) rfl rfl ⟨_, rfl, ?_⟩
            refine ⟨e5, ?_, ?_⟩
            · rw [e6]
              exact (CR.clear (hCR.shop (fun x _ q => e3 x q) e2)).good
            · rw [e6]
              exact (MSame.mk2 (fun x a b => e3 x (by omega))).trans ((MSame.s (by omega)).trans ((MSame.s (by omega)).trans MSame.ac))
          · omega
      · have bv := inB_nI (k := q) (n := mxT j + 1) hq (by omega)
        obtain ⟨hM, hSM, hUM, hIM, hDM, hPM, hNM, hBM⟩ := id h
        have to0 := hM.1
        have rfkept := MoAt.r hM 1 rfl
        have tfkept := MoAt.t hM 1 rfl
        have hta := tmA_lt j
        refine cw_entry 1 pf_Mo_terms rfl ?_
        by_cases h3 : j = 3
        · subst h3
          have eM : sI M (1020 + 2) (tmA 3) (nI q) = wkM M 1020 (up1 (mI M (1020 + 2)) 384 (nI q)) (mJ M (1020 + 3)) (mI M (1020 + 15)) (mI M 1020) := by
            conv => lhs; rw [← wk_id (M := M) (o := 1020)]
            rw [wk_sK]; rfl
          have hMw : MwHas (up1 (mI M (1020 + 2)) 384 (nI q)) (mJ M (1020 + 3)) 0 0 (sWo (zS z)) := hSM.1.kept hO.1.1 (fun x a b => up1_ne (by omega)) (fun x _ _ => rfl)
          refine wp_iload_n rfl (ck_get kk_Mo_terms 0 rfl) ?_
          refine wp_iload_n rfl (ck_get kk_Mo_terms 1 rfl) ?_
          refine wp_cS2i (ck_get kk_Mo_terms 2 rfl) ml_Mo_173 (by omega) (Nat.le_of_ble_eq_true rfl) (Ci.to (m_isTerm hj) ?_)
          rintro _ M1 ⟨rfl, eqm1⟩
          obtain rfl := eqm1.symm
          rw [bv]
          first | refine wp_if_neN (t := 14) (ck_get kk_Mo_terms 3 rfl) (by decide) (by omega) (fun hc5 => ?_) (fun hc5 => ?_) | refine wp_if_ne (t := 14) (ck_get kk_Mo_terms 3 rfl) (by decide) (fun hc5 => ?_) (fun hc5 => ?_)
          · refine wp_aload_n rfl (ck_get kk_Mo_terms 8 rfl) ?_
            refine wp_getR (ck_get kk_Mo_terms 9 rfl) fl_Mo_28 (by assumption) (by assumption) ?_
            refine wp_iload_n rfl (ck_get kk_Mo_terms 10 rfl) ?_
            refine wp_cS1i (ck_get kk_Mo_terms 11 rfl) ml_Mo_176 (by omega) (Nat.le_of_ble_eq_true rfl) (Ci.to (m_termAt hj) ?_)
            rintro _ M1 ⟨rfl, eqm1⟩
            obtain rfl := eqm1.symm
            refine wp_ialdv (v := nI (tvS (zS z) 3)) (ck_get kk_Mo_terms 12 rfl) (by assumption) (ixk_nI (k := tmA 3) (by omega) (by omega)) ((tm_at hj hSM)) ?_
            refine wp_istore_n (ck_get kk_Mo_terms 13 rfl) (by decide) rfl ?_
            refine wp_aload_n rfl (ck_get kk_Mo_terms 14 rfl) ?_
            refine wp_getR (ck_get kk_Mo_terms 15 rfl) fl_Mo_28 (by assumption) (by assumption) ?_
            refine wp_iload_n rfl (ck_get kk_Mo_terms 16 rfl) ?_
            refine wp_cS1i (ck_get kk_Mo_terms 17 rfl) ml_Mo_176 (by omega) (Nat.le_of_ble_eq_true rfl) (Ci.to (m_termAt hj) ?_)
            rintro _ M1 ⟨rfl, eqm1⟩
            obtain rfl := eqm1.symm
            refine wp_iload_n rfl (ck_get kk_Mo_terms 18 rfl) ?_
            refine wp_iast (ck_get kk_Mo_terms 19 rfl) (by assumption) (ixk_nI (k := tmA 3) (by omega) (by omega)) ?_
            refine wp_iload_n rfl (ck_get kk_Mo_terms 20 rfl) ?_
            refine wp_iconst (v := nI 3) (by decide) (ck_get kk_Mo_terms 21 rfl) ?_
            first | refine wp_icmp_neN (t := 43) (ck_get kk_Mo_terms 22 rfl) (by decide) (by omega) (by omega) (fun hc36 => ?_) (fun hc36 => ?_) | refine wp_icmp_ne (t := 43) (ck_get kk_Mo_terms 22 rfl) (by decide) (fun hc36 => ?_) (fun hc36 => ?_)
            · omega
            · rw [eM]
              refine wp_aload_n rfl (ck_get kk_Mo_terms 23 rfl) ?_
              refine wp_cV0v (ck_get kk_Mo_terms 24 rfl) ml_Mo_139 (by omega) (Nat.le_of_ble_eq_true rfl) (by assumption) (Cv.to (m_emptyT (by exact hM) hMw hO.1.1) ?_)
              rintro M1 ⟨K2, P2, e1, e2, e3⟩
              obtain rfl := e1
              refine wp_aload_n rfl (ck_get kk_Mo_terms 25 rfl) ?_
              refine wp_iload_n rfl (ck_get kk_Mo_terms 26 rfl) ?_
              have hR : MR (setS (zS z) 3 q, z.2) (wkM M 1020 K2 P2 (mI M (1020 + 15)) (mI M 1020)) := by
                refine h.wk ?_ (fun k _ => rfl) hNM.2.2.2.2.1
                obtain ⟨s1, s2, s3, s4, s5, s6, s7, s8, s9, s10⟩ := hSM
                have eK : ∀ y, 369 ≤ y → y ≠ 384 → K2 y = mI M 1022 y := fun y a b => (e3 y a).trans (up1_ne b)
                exact ⟨e2, by rw [eK _ (by omega) (by omega)]; exact s2, fun i hi => by rw [eK _ (by omega) (by have := hO.1.2.2.2.2.2.2.1; have : i < sSn (zS z) := hi; omega), eK _ (by omega) (by have := hO.1.2.2.2.2.2.2.1; have : i < sSn (zS z) := hi; omega)]; exact s3 i hi, by rw [eK _ (by omega) (by omega)]; exact s4, by rw [eK _ (by omega) (by omega)]; exact s5, by rw [e3 _ (by omega)]; exact up1_eq, by rw [eK _ (by omega) (by omega)]; exact s7, by rw [eK _ (by omega) (by omega)]; exact s8, by rw [eK _ (by omega) (by omega)]; exact s9, fun i hi => (s10 i hi).kept (Nat.lt_of_lt_of_le hi (Nat.le_trans hO.1.2.2.2.2.2.2.2.2.1 (by omega))) (fun x a => eK x (by omega) (by omega)) rfl⟩
              refine wp_cV1i (ck_get kk_Mo_terms 27 rfl) ml_Mo_149 (by omega) (Nat.le_of_ble_eq_true rfl) (by assumption) (Ci.to (m_settledT hR) ?_)
              rintro x M1 ⟨e4, e5, e6⟩
              refine wp_ireturn (ck_get kk_Mo_terms 28 rfl) rfl rfl ⟨_, rfl, ?_⟩
              exact ⟨e4, e5, CSame.wk.trans e6⟩
          · exact absurd hc5 (by decide)
        · have hjx : tmA j = 368 ∧ j = 0 ∨ tmA j = 382 ∧ j = 1 ∨ tmA j = 383 ∧ j = 2 := by
            rcases (show j = 0 ∨ j = 1 ∨ j = 2 by omega) with rfl | rfl | rfl
            · exact Or.inl ⟨rfl, rfl⟩
            · exact Or.inr (Or.inl ⟨rfl, rfl⟩)
            · exact Or.inr (Or.inr ⟨rfl, rfl⟩)
          refine wp_iload_n rfl (ck_get kk_Mo_terms 0 rfl) ?_
          refine wp_iload_n rfl (ck_get kk_Mo_terms 1 rfl) ?_
          refine wp_cS2i (ck_get kk_Mo_terms 2 rfl) ml_Mo_173 (by omega) (Nat.le_of_ble_eq_true rfl) (Ci.to (m_isTerm hj) ?_)
          rintro _ M1 ⟨rfl, eqm1⟩
          obtain rfl := eqm1.symm
          rw [bv]
          first | refine wp_if_neN (t := 14) (ck_get kk_Mo_terms 3 rfl) (by decide) (by omega) (fun hc5 => ?_) (fun hc5 => ?_) | refine wp_if_ne (t := 14) (ck_get kk_Mo_terms 3 rfl) (by decide) (fun hc5 => ?_) (fun hc5 => ?_)
          · refine wp_aload_n rfl (ck_get kk_Mo_terms 8 rfl) ?_
            refine wp_getR (ck_get kk_Mo_terms 9 rfl) fl_Mo_28 (by assumption) (by assumption) ?_
            refine wp_iload_n rfl (ck_get kk_Mo_terms 10 rfl) ?_
            refine wp_cS1i (ck_get kk_Mo_terms 11 rfl) ml_Mo_176 (by omega) (Nat.le_of_ble_eq_true rfl) (Ci.to (m_termAt hj) ?_)
            rintro _ M1 ⟨rfl, eqm1⟩
            obtain rfl := eqm1.symm
            refine wp_ialdv (v := nI (tvS (zS z) j)) (ck_get kk_Mo_terms 12 rfl) (by assumption) (ixk_nI (k := tmA j) (by omega) (by omega)) ((tm_at hj hSM)) ?_
            refine wp_istore_n (ck_get kk_Mo_terms 13 rfl) (by decide) rfl ?_
            refine wp_aload_n rfl (ck_get kk_Mo_terms 14 rfl) ?_
            refine wp_getR (ck_get kk_Mo_terms 15 rfl) fl_Mo_28 (by assumption) (by assumption) ?_
            refine wp_iload_n rfl (ck_get kk_Mo_terms 16 rfl) ?_
            refine wp_cS1i (ck_get kk_Mo_terms 17 rfl) ml_Mo_176 (by omega) (Nat.le_of_ble_eq_true rfl) (Ci.to (m_termAt hj) ?_)
            rintro _ M1 ⟨rfl, eqm1⟩
            obtain rfl := eqm1.symm
            refine wp_iload_n rfl (ck_get kk_Mo_terms 18 rfl) ?_
            refine wp_iast (ck_get kk_Mo_terms 19 rfl) (by assumption) (ixk_nI (k := tmA j) (by omega) (by omega)) ?_
            refine wp_iload_n rfl (ck_get kk_Mo_terms 20 rfl) ?_
            refine wp_iconst (v := nI 3) (by decide) (ck_get kk_Mo_terms 21 rfl) ?_
            first | refine wp_icmp_neN (t := 43) (ck_get kk_Mo_terms 22 rfl) (by decide) (by omega) (by omega) (fun hc36 => ?_) (fun hc36 => ?_) | refine wp_icmp_ne (t := 43) (ck_get kk_Mo_terms 22 rfl) (by decide) (fun hc36 => ?_) (fun hc36 => ?_)
            · refine wp_aload_n rfl (ck_get kk_Mo_terms 25 rfl) ?_
              refine wp_iload_n rfl (ck_get kk_Mo_terms 26 rfl) ?_
              have hR : MR (setS (zS z) j q, z.2) (sI M (1020 + 2) (tmA j) (nI q)) := by
                refine h.shop (fun x a => up2_o (by unfold moK at a; omega)) (fun x _ => rfl) (fun k _ => by rw [up2_o (by omega)]) (by rw [up2_o (by omega)]; exact hNM.2.2.2.2.1) ?_
                obtain ⟨s1, s2, s3, s4, s5, s6, s7, s8, s9, s10⟩ := hSM
                have eK : ∀ y, y ≠ tmA j → up2 (mI M) (1020 + 2) (tmA j) (nI q) 1022 y = mI M 1022 y := fun y a => up2_k a
                have eL : ∀ i, i < sLn (zS z) → LawR (up2 (mI M) (1020 + 2) (tmA j) (nI q) 1022) i (sLw (zS z) i).1 (sLw (zS z) i).2.1 (sLw (zS z) i).2.2 := fun i hi => (s10 i hi).kept (Nat.lt_of_lt_of_le hi (Nat.le_trans hO.1.2.2.2.2.2.2.2.2.1 (by omega))) (fun x a => eK x (by omega)) rfl
                have h6 := hO.1.2.2.2.2.2.2.1
                rcases hjx with ⟨ea, rfl⟩ | ⟨ea, rfl⟩ | ⟨ea, rfl⟩
                · exact ⟨⟨up2_v, fun t ht => (s1.2 t ht).kept (hO.1.1.2 t ht) (fun x a b => eK x (by omega)) (fun x _ _ => rfl)⟩, by rw [eK _ (by omega)]; exact s2, fun i hi => by rw [eK _ (by omega), eK _ (by omega)]; exact s3 i hi, by rw [eK _ (by omega)]; exact s4, by rw [eK _ (by omega)]; exact s5, by rw [eK _ (by omega)]; exact s6, by rw [eK _ (by omega)]; exact s7, by rw [eK _ (by omega)]; exact s8, by rw [eK _ (by omega)]; exact s9, eL⟩
                · exact ⟨s1.kept hO.1.1 (fun x a b => eK x (by omega)) (fun x _ _ => rfl), by rw [eK _ (by omega)]; exact s2, fun i hi => by rw [eK _ (by have : i < sSn (zS z) := hi; omega), eK _ (by have : i < sSn (zS z) := hi; omega)]; exact s3 i hi, up2_v, by rw [eK _ (by omega)]; exact s5, by rw [eK _ (by omega)]; exact s6, by rw [eK _ (by omega)]; exact s7, by rw [eK _ (by omega)]; exact s8, by rw [eK _ (by omega)]; exact s9, eL⟩
                · exact ⟨s1.kept hO.1.1 (fun x a b => eK x (by omega)) (fun x _ _ => rfl), by rw [eK _ (by omega)]; exact s2, fun i hi => by rw [eK _ (by have : i < sSn (zS z) := hi; omega), eK _ (by have : i < sSn (zS z) := hi; omega)]; exact s3 i hi, by rw [eK _ (by omega)]; exact s4, up2_v, by rw [eK _ (by omega)]; exact s6, by rw [eK _ (by omega)]; exact s7, by rw [eK _ (by omega)]; exact s8, by rw [eK _ (by omega)]; exact s9, eL⟩
              refine wp_cV1i (ck_get kk_Mo_terms 27 rfl) ml_Mo_149 (by omega) (Nat.le_of_ble_eq_true rfl) (by assumption) (Ci.to (m_settledT hR) ?_)
              rintro x M1 ⟨e4, e5, e6⟩
              refine wp_ireturn (ck_get kk_Mo_terms 28 rfl) rfl rfl ⟨_, rfl, ?_⟩
              exact ⟨e4, e5, CSame.trans (CSame.mk2 (fun x a => ⟨up2_o (by omega), rfl⟩)) e6⟩
            · omega
          · exact absurd hc5 (by decide)
    · refine ⟨-1, zBad z 1, (hO.le (Nat.le_succ c)).bad, fun M h => ?_, fun M h => ?_⟩
      · skip
        have hC' := h.le (Nat.le_succ c)
        obtain ⟨pf, pg, hL, hSC, hTC, hIC, hDC, hPC, hNC, hBC, hZC⟩ := h
        obtain ⟨t0, ⟨r00, hSh⟩, ⟨r01, hTr⟩, ⟨r02, hTg⟩, ⟨r03, hWa⟩, ⟨r04, hWp⟩, ⟨r06, t921, r921a, r921b, hS0, hS1⟩, ⟨r07, t922⟩, ⟨r08, t923⟩, ⟨r010, hPa⟩, ⟨r011, hJu⟩, ⟨r012, hRe⟩, ⟨r013, hCu⟩, ⟨r014, hDe⟩, ⟨r018, t959⟩, hPf⟩ := id hL
        have t1 : mT M 1 = (6, 0) := hSh.1
        have r10 : mR M 1 0 = some 2 := hSh.2.1
        have hW2 : WoAt (mT M) (mR M) 2 := hSh.2.2.1
        have t2 : mT M 2 = (9, 0) := hW2.1
        have r20 : mR M 2 0 = some 3 := hW2.2.1
        have t3 : mT M 3 = (24, 4) := hW2.2.2.1
        have t31 : mT M 31 = (8, 0) := hTr.1
        have t924 : mT M 924 = (3, 0) := hPa.1
        have t934 : mT M 934 = (2, 0) := hJu.1
        have t938 : mT M 938 = (5, 0) := hRe.1
        have t947 : mT M 947 = (0, 0) := hCu.1
        have t952 : mT M 952 = (1, 0) := hDe.1
        refine cw_entry 1 pf_Mc_terms rfl ?_
        refine wp_iload_n rfl (ck_get kk_Mc_terms 0 rfl) ?_
        refine wp_if_lt (t := 12) (ck_get kk_Mc_terms 1 rfl) (by decide) (fun hc1 => ?_) (fun hc1 => ?_)
        · refine wp_aload_n rfl (ck_get kk_Mc_terms 6 rfl) ?_
          refine wp_iconst (v := (-1)) (by decide) (ck_get kk_Mc_terms 7 rfl) ?_
          refine wp_cV1i (ck_get kk_Mc_terms 8 rfl) ml_Mc_172 (by omega) (Nat.le_of_ble_eq_true rfl) (by assumption) (Ci.to (c_refuse (k := 1) (by decide) (by omega) (by omega) hL) ?_)
          rintro x M1 ⟨e1, e2⟩
          refine wp_ireturn (ck_get kk_Mc_terms 9 rfl) rfl rfl ⟨_, rfl, ?_⟩
          exact ⟨e1, by rw [e2]; exact hC'.bad (by omega), by rw [e2]; exact MSame.bd⟩
        · refine wp_iload_n rfl (ck_get kk_Mc_terms 2 rfl) ?_
          refine wp_iload_n rfl (ck_get kk_Mc_terms 3 rfl) ?_
          refine wp_cS1i (ck_get kk_Mc_terms 4 rfl) ml_Mc_168 (by omega) (Nat.le_of_ble_eq_true rfl) (Ci.to (c_mostOf hj) ?_)
          rintro _ M1 ⟨rfl, eqm1⟩
          obtain rfl := eqm1.symm
          refine wp_icmp_le (t := 18) (ck_get kk_Mc_terms 5 rfl) (by decide) (fun hc9 => ?_) (fun hc9 => ?_)
          · exact (i32o ⟨bv, hv⟩ 0 _ rfl (by omega) (by omega) hc1 (fun h => by have a := Int32.lt_iff_toInt_lt.mp h; have b := Int32.le_iff_toInt_le.mp hc9; omega)).elim
          · refine wp_aload_n rfl (ck_get kk_Mc_terms 6 rfl) ?_
            refine wp_iconst (v := (-1)) (by decide) (ck_get kk_Mc_terms 7 rfl) ?_
            refine wp_cV1i (ck_get kk_Mc_terms 8 rfl) ml_Mc_172 (by omega) (Nat.le_of_ble_eq_true rfl) (by assumption) (Ci.to (c_refuse (k := 1) (by decide) (by omega) (by omega) hL) ?_)
            rintro x M1 ⟨e1, e2⟩
            refine wp_ireturn (ck_get kk_Mc_terms 9 rfl) rfl rfl ⟨_, rfl, ?_⟩
            exact ⟨e1, by rw [e2]; exact hC'.bad (by omega), by rw [e2]; exact MSame.bd⟩
      · skip
        obtain ⟨hM, hSM, hUM, hIM, hDM, hPM, hNM, hBM⟩ := id h
        have to0 := hM.1
        refine cw_entry 1 pf_Mo_terms rfl ?_
        refine wp_iload_n rfl (ck_get kk_Mo_terms 0 rfl) ?_
        refine wp_iload_n rfl (ck_get kk_Mo_terms 1 rfl) ?_
        refine wp_cS2i (ck_get kk_Mo_terms 2 rfl) ml_Mo_173 (by omega) (Nat.le_of_ble_eq_true rfl) (Ci.to (m_isTerm hj) ?_)
        rintro _ M1 ⟨rfl, eqm1⟩
        obtain rfl := eqm1.symm
        rw [bv]
        first | refine wp_if_neN (t := 14) (ck_get kk_Mo_terms 3 rfl) (by decide) (by omega) (fun hc5 => ?_) (fun hc5 => ?_) | refine wp_if_ne (t := 14) (ck_get kk_Mo_terms 3 rfl) (by decide) (fun hc5 => ?_) (fun hc5 => ?_)
        · exact absurd (by decide) hc5
        · refine wp_aload_n rfl (ck_get kk_Mo_terms 4 rfl) ?_
          refine wp_iconst (v := (-1)) (by decide) (ck_get kk_Mo_terms 5 rfl) ?_
          refine wp_cV1i (ck_get kk_Mo_terms 6 rfl) ml_Mo_146 (by omega) (Nat.le_of_ble_eq_true rfl) (by assumption) (Ci.to (m_refusesV (c := 1) (by decide) hM (by omega)) ?_)
          rintro x M1 ⟨e1, e2⟩
          refine wp_ireturn (ck_get kk_Mo_terms 7 rfl) rfl rfl ⟨_, rfl, ?_⟩
          exact ⟨e1, by rw [e2]; exact h.bad (by omega), by rw [e2]; exact CSame.rf⟩
  · have c_mo : ∀ {M : Mem}, Ci g Y_Mc_mostOfTerm 0 [.int w] M (fun x M2 => x = -1 ∧ M2 = M) := by
      intro M
      refine cw_entry 0 pf_Mc_mostOfTerm rfl ?_
      refine wp_iload_n rfl (ck_get kk_Mc_mostOfTerm 0 rfl) ?_
      refine wp_tabOut (t := 42) (ck_get kk_Mc_mostOfTerm 1 rfl) (by omega) (by decide) ?_
      refine wp_iconst (v := (-1)) (by decide) (ck_get kk_Mc_mostOfTerm 8 rfl) ?_
      refine wp_ireturn (ck_get kk_Mc_mostOfTerm 9 rfl) rfl rfl ⟨_, rfl, ?_⟩
      exact ⟨rfl, rfl⟩
    have m_mo : ∀ {M : Mem}, Ci g Y_Mo_isTerm 1 [.int w, .int v] M (fun x M2 => x = bI false ∧ M2 = M) := by
      intro M
      refine cw_entry 0 pf_Mo_isTerm rfl ?_
      refine wp_iload_n rfl (ck_get kk_Mo_isTerm 0 rfl) ?_
      refine wp_tabOut (t := 66) (ck_get kk_Mo_isTerm 1 rfl) (by omega) (by decide) ?_
      refine wp_iconst (v := nI 0) (by decide) (ck_get kk_Mo_isTerm 22 rfl) ?_
      refine wp_ireturn (ck_get kk_Mo_isTerm 23 rfl) rfl rfl ⟨_, rfl, ?_⟩
      exact ⟨rfl, rfl⟩
    refine ⟨-1, zBad z 1, (hO.le (Nat.le_succ c)).bad, fun M h => ?_, fun M h => ?_⟩
    · skip
      have hC' := h.le (Nat.le_succ c)
      obtain ⟨pf, pg, hL, hSC, hTC, hIC, hDC, hPC, hNC, hBC, hZC⟩ := h
      obtain ⟨t0, ⟨r00, hSh⟩, ⟨r01, hTr⟩, ⟨r02, hTg⟩, ⟨r03, hWa⟩, ⟨r04, hWp⟩, ⟨r06, t921, r921a, r921b, hS0, hS1⟩, ⟨r07, t922⟩, ⟨r08, t923⟩, ⟨r010, hPa⟩, ⟨r011, hJu⟩, ⟨r012, hRe⟩, ⟨r013, hCu⟩, ⟨r014, hDe⟩, ⟨r018, t959⟩, hPf⟩ := id hL
      have t1 : mT M 1 = (6, 0) := hSh.1
      have r10 : mR M 1 0 = some 2 := hSh.2.1
      have hW2 : WoAt (mT M) (mR M) 2 := hSh.2.2.1
      have t2 : mT M 2 = (9, 0) := hW2.1
      have r20 : mR M 2 0 = some 3 := hW2.2.1
      have t3 : mT M 3 = (24, 4) := hW2.2.2.1
      have t31 : mT M 31 = (8, 0) := hTr.1
      have t924 : mT M 924 = (3, 0) := hPa.1
      have t934 : mT M 934 = (2, 0) := hJu.1
      have t938 : mT M 938 = (5, 0) := hRe.1
      have t947 : mT M 947 = (0, 0) := hCu.1
      have t952 : mT M 952 = (1, 0) := hDe.1
      refine cw_entry 1 pf_Mc_terms rfl ?_
      refine wp_iload_n rfl (ck_get kk_Mc_terms 0 rfl) ?_
      refine wp_if_lt (t := 12) (ck_get kk_Mc_terms 1 rfl) (by decide) (fun hc1 => ?_) (fun hc1 => ?_)
      · refine wp_aload_n rfl (ck_get kk_Mc_terms 6 rfl) ?_
        refine wp_iconst (v := (-1)) (by decide) (ck_get kk_Mc_terms 7 rfl) ?_
        refine wp_cV1i (ck_get kk_Mc_terms 8 rfl) ml_Mc_172 (by omega) (Nat.le_of_ble_eq_true rfl) (by assumption) (Ci.to (c_refuse (k := 1) (by decide) (by omega) (by omega) hL) ?_)
        rintro x M1 ⟨e1, e2⟩
        refine wp_ireturn (ck_get kk_Mc_terms 9 rfl) rfl rfl ⟨_, rfl, ?_⟩
        exact ⟨e1, by rw [e2]; exact hC'.bad (by omega), by rw [e2]; exact MSame.bd⟩
      · refine wp_iload_n rfl (ck_get kk_Mc_terms 2 rfl) ?_
        refine wp_iload_n rfl (ck_get kk_Mc_terms 3 rfl) ?_
        refine wp_cS1i (ck_get kk_Mc_terms 4 rfl) ml_Mc_168 (by omega) (Nat.le_of_ble_eq_true rfl) (Ci.to (c_mo) ?_)
        rintro _ M1 ⟨rfl, eqm1⟩
        obtain rfl := eqm1.symm
        refine wp_icmp_le (t := 18) (ck_get kk_Mc_terms 5 rfl) (by decide) (fun hc9 => ?_) (fun hc9 => ?_)
        · exfalso
          have a := Int32.le_iff_toInt_le.mp hc9
          have b := mt Int32.lt_iff_toInt_lt.mpr hc1
          have m1 : (-1 : Int32).toInt = -1 := by decide
          have z0 : (0 : Int32).toInt = 0 := by decide
          omega
        · refine wp_aload_n rfl (ck_get kk_Mc_terms 6 rfl) ?_
          refine wp_iconst (v := (-1)) (by decide) (ck_get kk_Mc_terms 7 rfl) ?_
          refine wp_cV1i (ck_get kk_Mc_terms 8 rfl) ml_Mc_172 (by omega) (Nat.le_of_ble_eq_true rfl) (by assumption) (Ci.to (c_refuse (k := 1) (by decide) (by omega) (by omega) hL) ?_)
          rintro x M1 ⟨e1, e2⟩
          refine wp_ireturn (ck_get kk_Mc_terms 9 rfl) rfl rfl ⟨_, rfl, ?_⟩
          exact ⟨e1, by rw [e2]; exact hC'.bad (by omega), by rw [e2]; exact MSame.bd⟩
    · skip
      obtain ⟨hM, hSM, hUM, hIM, hDM, hPM, hNM, hBM⟩ := id h
      have to0 := hM.1
      refine cw_entry 1 pf_Mo_terms rfl ?_
      refine wp_iload_n rfl (ck_get kk_Mo_terms 0 rfl) ?_
      refine wp_iload_n rfl (ck_get kk_Mo_terms 1 rfl) ?_
      refine wp_cS2i (ck_get kk_Mo_terms 2 rfl) ml_Mo_173 (by omega) (Nat.le_of_ble_eq_true rfl) (Ci.to (m_mo) ?_)
      rintro _ M1 ⟨rfl, eqm1⟩
      obtain rfl := eqm1.symm
      first | refine wp_if_neN (t := 14) (ck_get kk_Mo_terms 3 rfl) (by decide) (by omega) (fun hc5 => ?_) (fun hc5 => ?_) | refine wp_if_ne (t := 14) (ck_get kk_Mo_terms 3 rfl) (by decide) (fun hc5 => ?_) (fun hc5 => ?_)
      · exact absurd (by decide) hc5
      · refine wp_aload_n rfl (ck_get kk_Mo_terms 4 rfl) ?_
        refine wp_iconst (v := (-1)) (by decide) (ck_get kk_Mo_terms 5 rfl) ?_
        refine wp_cV1i (ck_get kk_Mo_terms 6 rfl) ml_Mo_146 (by omega) (Nat.le_of_ble_eq_true rfl) (by assumption) (Ci.to (m_refusesV (c := 1) (by decide) hM (by omega)) ?_)
        rintro x M1 ⟨e1, e2⟩
        refine wp_ireturn (ck_get kk_Mo_terms 7 rfl) rfl rfl ⟨_, rfl, ?_⟩
        exact ⟨e1, by rw [e2]; exact h.bad (by omega), by rw [e2]; exact CSame.rf⟩
end TRN
