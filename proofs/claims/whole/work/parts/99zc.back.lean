/-! ===== back ===== -/
section BAK
variable {g : Gl} {M : Mem}
theorem b_back {w : Int32} : Both g Y_Mc_back Y_Mo_back [.int w] := by
  intro c z hc hO
  rcases i32c w 2 (by omega) with ⟨k, hk, rfl⟩ | hw
  · have bw := inB_nI hk (n := 2) (by omega)
    cases him : zI z k with
    | none =>
      refine ⟨-2, zBad z 2, (hO.le (Nat.le_succ c)).bad, fun M h => ?_, fun M h => ?_⟩
      · skip
        have hC' := h.le (Nat.le_succ c)
        obtain ⟨pf, pg, hL, hSC, hTC, hIC, hDC, hPC, hNC, hBC, hZC⟩ := h
        obtain ⟨t0, ⟨r00, hSh⟩, ⟨r01, hTr⟩, ⟨r02, hTg⟩, ⟨r03, hWa⟩, ⟨r04, hWp⟩, ⟨r06, t921, r921a, r921b, hS0, hS1⟩, ⟨r07, t922⟩, ⟨r08, t923⟩, ⟨r010, hPa⟩, ⟨r011, hJu⟩, ⟨r012, hRe⟩, ⟨r013, hCu⟩, ⟨r014, hDe⟩, ⟨r018, t959⟩, hPf⟩ := id hL
        have t1 : mT M 1 = (6, 0) := hSh.1
        have r10 : mR M 1 0 = some 2 := hSh.2.1
        have hW2 : WoAt (mT M) (mR M) 2 := hSh.2.2.1
        have t2 : mT M 2 = (9, 0) := hW2.1
        have r20 : mR M 2 0 = some 3 := hW2.2.1
        have t3 : mT M 3 = (24, 4) := hW2.2.2.1
        have t31 : mT M 31 = (8, 0) := hTr.1
        have t924 : mT M 924 = (3, 0) := hPa.1
        have t934 : mT M 934 = (2, 0) := hJu.1
        have t938 : mT M 938 = (5, 0) := hRe.1
        have t947 : mT M 947 = (0, 0) := hCu.1
        have t952 : mT M 952 = (1, 0) := hDe.1
        have e0 : mI M 922 k = bI false := by rw [(hIC k hk).1, him]; rfl
        refine cw_entry 0 pf_Mc_back rfl ?_
        refine wp_iload_n rfl (ck_get kk_Mc_back 0 rfl) ?_
        first | refine wp_if_ltN (t := 9) (ck_get kk_Mc_back 1 rfl) (by decide) (by omega) (fun hc1 => ?_) (fun hc1 => ?_) | refine wp_if_lt (t := 9) (ck_get kk_Mc_back 1 rfl) (by decide) (fun hc1 => ?_) (fun hc1 => ?_)
        · exact hc1.elim
        · refine wp_iload_n rfl (ck_get kk_Mc_back 2 rfl) ?_
          refine wp_iconst (v := nI 2) (by decide) (ck_get kk_Mc_back 3 rfl) ?_
          first | refine wp_icmp_ltN (t := 15) (ck_get kk_Mc_back 4 rfl) (by decide) (by omega) (by omega) (fun hc6 => ?_) (fun hc6 => ?_) | refine wp_icmp_lt (t := 15) (ck_get kk_Mc_back 4 rfl) (by decide) (fun hc6 => ?_) (fun hc6 => ?_)
          · refine wp_aload_n rfl (ck_get kk_Mc_back 9 rfl) ?_
            refine wp_getR (ck_get kk_Mc_back 10 rfl) fl_Mc_44 (by assumption) (by assumption) ?_
            refine wp_iload_n rfl (ck_get kk_Mc_back 11 rfl) ?_
            refine wp_zald (ck_get kk_Mc_back 12 rfl) (by assumption) (ixk_nI (k := k) (by omega) (by omega)) ?_
            rw [e0]
            first | refine wp_if_neN (t := 31) (ck_get kk_Mc_back 13 rfl) (by decide) (by omega) (fun hc21 => ?_) (fun hc21 => ?_) | refine wp_if_ne (t := 31) (ck_get kk_Mc_back 13 rfl) (by decide) (fun hc21 => ?_) (fun hc21 => ?_)
            · exact absurd (by decide) hc21
            · refine wp_aload_n rfl (ck_get kk_Mc_back 14 rfl) ?_
              refine wp_bipush (v := (-2)) (by decide) (ck_get kk_Mc_back 15 rfl) ?_
              refine wp_cV1i (ck_get kk_Mc_back 16 rfl) ml_Mc_172 (by omega) (Nat.le_of_ble_eq_true rfl) (by assumption) (Ci.to (c_refuse (k := 2) (by decide) (by omega) (by omega) hL) ?_)
              rintro x M1 ⟨e1, e2⟩
              refine wp_ireturn (ck_get kk_Mc_back 17 rfl) rfl rfl ⟨_, rfl, ?_⟩
              exact ⟨e1, by rw [e2]; exact hC'.bad (by omega), by rw [e2]; exact MSame.bd⟩
          · omega
      · skip
        obtain ⟨hM, hSM, hUM, hIM, hDM, hPM, hNM, hBM⟩ := id h
        have e0 : mI M (1020 + 6) k = 0 := by rw [show mI M (1020 + 6) k = _ from (hIM k hk).1, him]; rfl
        refine Ci.to (Cw.le (n2 := 300) (by omega) (m_back (k := nI k) hM)) ?_
        rintro x M2 (⟨q, -⟩ | ⟨t, ht, et, ⟨-, rfl, rfl⟩ | ⟨q, -⟩⟩)
        · rw [bw] at q; cases q
        · exact ⟨rfl, h.bad (k := 2) (by omega), CSame.rf⟩
        · obtain rfl : k = t := (nI_eq (by omega) (by omega)).mp et
          exact absurd e0 q
    | some s =>
      have hSO := hO.2.2.1 k s hk him
      refine ⟨nI 0, zGood (s, (0, (zU z).2), z.2.2), ZOK.good ?_, fun M h => ?_, fun M h => ?_⟩
      · obtain ⟨o1, o2, o3, o4⟩ := hO.le (Nat.le_succ c)
        exact ⟨o3 k s hk him, ⟨Nat.zero_le _, fun i hi => absurd hi (Nat.not_lt_zero i)⟩, o3, o4⟩
      · skip
        have hC' := h.le (Nat.le_succ c)
        obtain ⟨pf, pg, hL, hSC, hTC, hIC, hDC, hPC, hNC, hBC, hZC⟩ := h
        obtain ⟨t0, ⟨r00, hSh⟩, ⟨r01, hTr⟩, ⟨r02, hTg⟩, ⟨r03, hWa⟩, ⟨r04, hWp⟩, ⟨r06, t921, r921a, r921b, hS0, hS1⟩, ⟨r07, t922⟩, ⟨r08, t923⟩, ⟨r010, hPa⟩, ⟨r011, hJu⟩, ⟨r012, hRe⟩, ⟨r013, hCu⟩, ⟨r014, hDe⟩, ⟨r018, t959⟩, hPf⟩ := id hL
        have t1 : mT M 1 = (6, 0) := hSh.1
        have r10 : mR M 1 0 = some 2 := hSh.2.1
        have hW2 : WoAt (mT M) (mR M) 2 := hSh.2.2.1
        have t2 : mT M 2 = (9, 0) := hW2.1
        have r20 : mR M 2 0 = some 3 := hW2.2.1
        have t3 : mT M 3 = (24, 4) := hW2.2.2.1
        have t31 : mT M 31 = (8, 0) := hTr.1
        have t924 : mT M 924 = (3, 0) := hPa.1
        have t934 : mT M 934 = (2, 0) := hJu.1
        have t938 : mT M 938 = (5, 0) := hRe.1
        have t947 : mT M 947 = (0, 0) := hCu.1
        have t952 : mT M 952 = (1, 0) := hDe.1
        have e0 : mI M 922 k = bI true := by rw [(hIC k hk).1, him]; rfl
        have hAk : ShAt (mT M) (mR M) (960 + 30 * k) := by
          rcases (show k = 0 ∨ k = 1 by omega) with rfl | rfl
          · exact hS0
          · exact hS1
        have rim : mR M 921 k = some (960 + 30 * k) := by
          rcases (show k = 0 ∨ k = 1 by omega) with rfl | rfl
          · exact r921a
          · exact r921b
        refine cw_entry 0 pf_Mc_back rfl ?_
        refine wp_iload_n rfl (ck_get kk_Mc_back 0 rfl) ?_
        first | refine wp_if_ltN (t := 9) (ck_get kk_Mc_back 1 rfl) (by decide) (by omega) (fun hc1 => ?_) (fun hc1 => ?_) | refine wp_if_lt (t := 9) (ck_get kk_Mc_back 1 rfl) (by decide) (fun hc1 => ?_) (fun hc1 => ?_)
        · exact hc1.elim
        · refine wp_iload_n rfl (ck_get kk_Mc_back 2 rfl) ?_
          refine wp_iconst (v := nI 2) (by decide) (ck_get kk_Mc_back 3 rfl) ?_
          first | refine wp_icmp_ltN (t := 15) (ck_get kk_Mc_back 4 rfl) (by decide) (by omega) (by omega) (fun hc6 => ?_) (fun hc6 => ?_) | refine wp_icmp_lt (t := 15) (ck_get kk_Mc_back 4 rfl) (by decide) (fun hc6 => ?_) (fun hc6 => ?_)
          · refine wp_aload_n rfl (ck_get kk_Mc_back 9 rfl) ?_
            refine wp_getR (ck_get kk_Mc_back 10 rfl) fl_Mc_44 (by assumption) (by assumption) ?_
            refine wp_iload_n rfl (ck_get kk_Mc_back 11 rfl) ?_
            refine wp_zald (ck_get kk_Mc_back 12 rfl) (by assumption) (ixk_nI (k := k) (by omega) (by omega)) ?_
            rw [e0]
            first | refine wp_if_neN (t := 31) (ck_get kk_Mc_back 13 rfl) (by decide) (by omega) (fun hc21 => ?_) (fun hc21 => ?_) | refine wp_if_ne (t := 31) (ck_get kk_Mc_back 13 rfl) (by decide) (fun hc21 => ?_) (fun hc21 => ?_)
            · refine wp_aload_n rfl (ck_get kk_Mc_back 18 rfl) ?_
              refine wp_getR (ck_get kk_Mc_back 19 rfl) fl_Mc_12 (by assumption) (by assumption) ?_
              refine wp_aload_n rfl (ck_get kk_Mc_back 20 rfl) ?_
              refine wp_getR (ck_get kk_Mc_back 21 rfl) fl_Mc_40 (by assumption) (by assumption) ?_
              refine wp_iload_n rfl (ck_get kk_Mc_back 22 rfl) ?_
              refine wp_aald (ck_get kk_Mc_back 23 rfl) (by assumption) (by first | assumption | exact ixk_nI (by omega) (by omega)) (by assumption) ?_
              refine wp_cV1v (ck_get kk_Mc_back 24 rfl) ml_Mc_388 (by omega) (Nat.le_of_ble_eq_true rfl) (by assumption) (Cv.to (c_shcopy hSh hAk (by omega) (by omega) (by omega) ((hIC k hk).2.2 s him) hSO) ?_)
              rintro M1 ⟨I2, J2, R2, e1, e2, e3, e4⟩
              subst e1
              have hL2 : LayC (mT M) R2 pf pg := hL.kk (fun _ _ => rfl) (fun x q1 q2 q3 q4 q5 j _ => congrFun (e4 x (by omega)) j)
              have r1' : R2 0 1 = some 31 := by rw [e4 0 (by omega)]; exact r01
              refine wp_aload_n rfl (ck_get kk_Mc_back 25 rfl) ?_
              refine wp_getR (ck_get kk_Mc_back 26 rfl) fl_Mc_19 (by assumption) (by assumption) ?_
              refine wp_cV0v (ck_get kk_Mc_back 27 rfl) ml_Mc_182 (by omega) (Nat.le_of_ble_eq_true rfl) (by assumption) (Cv.to (c_Trclear (wf := fun s => slA (pf s)) (by exact hL2.2.2.1.2)) ?_)
              rintro M1 e5
              subst e5
              refine wp_aload_n rfl (ck_get kk_Mc_back 28 rfl) ?_
              refine wp_iconst (v := nI 0) (by decide) (ck_get kk_Mc_back 29 rfl) ?_
              refine wp_cV1i (ck_get kk_Mc_back 30 rfl) ml_Mc_185 (by omega) (Nat.le_of_ble_eq_true rfl) (by assumption) (Ci.to (c_accept (pf := pf) (pg := pg) (by exact hL2)) ?_)
              rintro x M1 ⟨e6, e7⟩
              refine wp_ireturn (ck_get kk_Mc_back 31 rfl) rfl rfl ⟨_, rfl, ?_⟩
              rw [e7]
              have fI : ∀ x, x < 1 ∨ 31 ≤ x → I2 x = mI M x ∧ J2 x = mJ M x := fun x a => e3 x (by omega)
              have hk2 : HiK (mT M) (mR M) (mI M) (mT M) R2 I2 := fun x hx _ => ⟨rfl, e4 x (by omega), (fI x (by omega)).1⟩
              have hCR2 : CR (c + 1) (s, z.2) (mk5 M I2 J2 R2) := ⟨pf, pg, hL2, e2, hTC.kept ⟨(fI 31 (by omega)).1, (fI 33 (by omega)).1⟩ (fun s hs x q1 q2 => fI x (by have := slA_lt (hPf.1 s hs).1; omega)), hIC.kept (fI 922 (by omega)).1 (fun x q1 q2 => fI x (by omega)) ⟨e4 989 (by omega), e4 1019 (by omega)⟩ hk2, hDC.kept (congrFun (fI 0 (by omega)).1 5) (fun x q1 q2 => fI x (by omega)), hPC.kept (congrFun (fI 0 (by omega)).1 9) (fI 923 (by omega)).1, hNC.kept ⟨congrFun (fI 0 (by omega)).1 15, congrFun (fI 0 (by omega)).1 16, congrFun (fI 0 (by omega)).1 17⟩ (congrFun (fI 924 (by omega)).1 1) (fI 959 (by omega)).1, hBC.kept (e4 949 (by omega)) (fI 949 (by omega)).1 (fun v hv _ => ⟨rfl, (fI v (by omega)).1⟩), hZC.le (Nat.le_succ c)⟩
              refine ⟨e6, hCR2.clear.good, ?_⟩
              have hms : MSame M (mk5 M I2 J2 R2) := fun x a b => ⟨rfl, e4 x (by omega), (fI x (by omega)).1, (fI x (by omega)).2⟩
              exact ((hms.trans (MSame.s (by omega))).trans (MSame.s (by omega))).trans MSame.ac
            · exact absurd hc21 (by decide)
          · omega
      · skip
        obtain ⟨hM, hSM, hUM, hIM, hDM, hPM, hNM, hBM⟩ := id h
        have e0 : ¬ mI M (1020 + 6) k = 0 := by rw [show mI M (1020 + 6) k = _ from (hIM k hk).1, him]; exact (show ¬ bI true = 0 by decide)
        refine Ci.to (Cw.le (n2 := 300) (by omega) (m_back (k := nI k) hM)) ?_
        rintro x M2 (⟨q, -⟩ | ⟨t, ht, et, ⟨q, -⟩ | ⟨-, rfl, rfl⟩⟩)
        · rw [bw] at q; cases q
        · obtain rfl : k = t := (nI_eq (by omega) (by omega)).mp et
          exact absurd q e0
        obtain rfl : k = t := (nI_eq (by omega) (by omega)).mp et
        have hS2 : ShM (cpL (mI M (1020 + 2)) (mI M (1020 + 4)) 0 (5995 * k) 5995) (cpL (mJ M (1020 + 3)) (mJ M (1020 + 5)) 0 (100 * k) 100) s := by
          refine ((hIM k hk).2 s him).kb hSO (fun x hx => ?_) (fun x hx => ?_)
          · unfold cpL
            rw [if_pos (by omega), Nat.sub_zero]
          · unfold cpL
            rw [if_pos (by omega), Nat.sub_zero]
        have eM : bakM M 1020 k = wkM M 1020 (cpL (mI M (1020 + 2)) (mI M (1020 + 4)) 0 (5995 * k) 5995) (cpL (mJ M (1020 + 3)) (mJ M (1020 + 5)) 0 (100 * k) 100) (mI M (1020 + 15)) (mI M 1020) := by
          refine mk2_ext (M := M) ?_ rfl
          show up1 (mI M) (1020 + 2) _ = up1 (up1 (up1 (mI M) (1020 + 2) _) (1020 + 15) (mI M (1020 + 15))) 1020 (mI M 1020)
          rw [show up1 (up1 (mI M) (1020 + 2) (cpL (mI M (1020 + 2)) (mI M (1020 + 4)) 0 (5995 * k) 5995)) (1020 + 15) (mI M (1020 + 15)) = up1 (mI M) (1020 + 2) (cpL (mI M (1020 + 2)) (mI M (1020 + 4)) 0 (5995 * k) 5995) from up1_id (up1_ne (by omega)), up1_id (up1_ne (by omega))]
        have hR : MR (s, z.2) (bakM M 1020 k) := by
          rw [eM]
          exact h.wk hS2 (fun j _ => rfl) hNM.2.2.2.2.1
        have hC : CSame M (bakM M 1020 k) := by rw [eM]; exact CSame.wk
        have eS : stM (bakM M 1020 k) 1020 = gdM (sI (ubM (bakM M 1020 k) 1020 (mI (bakM M 1020 k) 1036) (mJ (bakM M 1020 k) 1037)) 1020 36 (nI 0)) 1020 := by
          generalize bakM M 1020 k = M3
          refine mk2_ext (M := M3) ?_ ?_
          · show _ = up2 (up2 (up1 (mI M3) (1020 + 16) (mI M3 1036)) 1020 36 (nI 0)) 1020 0 (nI 0)
            rw [show up1 (mI M3) (1020 + 16) (mI M3 1036) = mI M3 from up1_id rfl]
          · exact (up1_id rfl).symm
        refine ⟨rfl, ?_, ?_⟩
        · rw [eS]
          exact (hR.ub (u2 := (0, (zU z).2)) (fun i hi => absurd hi (Nat.not_lt_zero i))).good
        · refine hC.trans ?_
          exact CSame.mk2 (fun x a => ⟨by rw [up2_o (by omega), up2_o (by omega)], rfl⟩)
  · refine ⟨-1, zBad z 1, (hO.le (Nat.le_succ c)).bad, fun M h => ?_, fun M h => ?_⟩
    · skip
      have hC' := h.le (Nat.le_succ c)
      obtain ⟨pf, pg, hL, hSC, hTC, hIC, hDC, hPC, hNC, hBC, hZC⟩ := h
      obtain ⟨t0, ⟨r00, hSh⟩, ⟨r01, hTr⟩, ⟨r02, hTg⟩, ⟨r03, hWa⟩, ⟨r04, hWp⟩, ⟨r06, t921, r921a, r921b, hS0, hS1⟩, ⟨r07, t922⟩, ⟨r08, t923⟩, ⟨r010, hPa⟩, ⟨r011, hJu⟩, ⟨r012, hRe⟩, ⟨r013, hCu⟩, ⟨r014, hDe⟩, ⟨r018, t959⟩, hPf⟩ := id hL
      have t1 : mT M 1 = (6, 0) := hSh.1
      have r10 : mR M 1 0 = some 2 := hSh.2.1
      have hW2 : WoAt (mT M) (mR M) 2 := hSh.2.2.1
      have t2 : mT M 2 = (9, 0) := hW2.1
      have r20 : mR M 2 0 = some 3 := hW2.2.1
      have t3 : mT M 3 = (24, 4) := hW2.2.2.1
      have t31 : mT M 31 = (8, 0) := hTr.1
      have t924 : mT M 924 = (3, 0) := hPa.1
      have t934 : mT M 934 = (2, 0) := hJu.1
      have t938 : mT M 938 = (5, 0) := hRe.1
      have t947 : mT M 947 = (0, 0) := hCu.1
      have t952 : mT M 952 = (1, 0) := hDe.1
      refine cw_entry 0 pf_Mc_back rfl ?_
      refine wp_iload_n rfl (ck_get kk_Mc_back 0 rfl) ?_
      refine wp_if_lt (t := 9) (ck_get kk_Mc_back 1 rfl) (by decide) (fun hc1 => ?_) (fun hc1 => ?_)
      · refine wp_aload_n rfl (ck_get kk_Mc_back 5 rfl) ?_
        refine wp_iconst (v := (-1)) (by decide) (ck_get kk_Mc_back 6 rfl) ?_
        refine wp_cV1i (ck_get kk_Mc_back 7 rfl) ml_Mc_172 (by omega) (Nat.le_of_ble_eq_true rfl) (by assumption) (Ci.to (c_refuse (k := 1) (by decide) (by omega) (by omega) hL) ?_)
        rintro x M1 ⟨e1, e2⟩
        refine wp_ireturn (ck_get kk_Mc_back 8 rfl) rfl rfl ⟨_, rfl, ?_⟩
        exact ⟨e1, by rw [e2]; exact hC'.bad (by omega), by rw [e2]; exact MSame.bd⟩
      · refine wp_iload_n rfl (ck_get kk_Mc_back 2 rfl) ?_
        refine wp_iconst (v := nI 2) (by decide) (ck_get kk_Mc_back 3 rfl) ?_
        refine wp_icmp_lt (t := 15) (ck_get kk_Mc_back 4 rfl) (by decide) (fun hc6 => ?_) (fun hc6 => ?_)
        · exact (i32o hw 0 1 rfl (by omega) (by omega) hc1 (fun h => by have a := Int32.lt_iff_toInt_lt.mp h; have b := Int32.lt_iff_toInt_lt.mp hc6; rw [nI_toInt (by omega)] at a b; omega)).elim
        · refine wp_aload_n rfl (ck_get kk_Mc_back 5 rfl) ?_
          refine wp_iconst (v := (-1)) (by decide) (ck_get kk_Mc_back 6 rfl) ?_
          refine wp_cV1i (ck_get kk_Mc_back 7 rfl) ml_Mc_172 (by omega) (Nat.le_of_ble_eq_true rfl) (by assumption) (Ci.to (c_refuse (k := 1) (by decide) (by omega) (by omega) hL) ?_)
          rintro x M1 ⟨e1, e2⟩
          refine wp_ireturn (ck_get kk_Mc_back 8 rfl) rfl rfl ⟨_, rfl, ?_⟩
          exact ⟨e1, by rw [e2]; exact hC'.bad (by omega), by rw [e2]; exact MSame.bd⟩
    · skip
      obtain ⟨hM, hSM, hUM, hIM, hDM, hPM, hNM, hBM⟩ := id h
      refine Ci.to (Cw.le (n2 := 300) (by omega) (m_back (k := w) hM)) ?_
      rintro x M2 (⟨-, rfl, rfl⟩ | ⟨t, ht, et, -⟩)
      · exact ⟨rfl, h.bad (k := 1) (by omega), CSame.rf⟩
      · subst et
        have := hw.1
        rw [inB_nI ht (by omega)] at this; cases this
end BAK
