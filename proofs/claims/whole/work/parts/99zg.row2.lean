/-! ===== row ===== -/
section RWB
variable {g : Gl} {M : Mem} {K : Nat → Int32} {P : Nat → Int64} {A F : Nat → Int32}
theorem wk_base {k : Nat} {v : Int32} : wkM (sI M 1020 k v) 1020 K P A F = wkM M 1020 K P A F := by
  refine mk2_ext (M := M) ?_ rfl
  funext x
  show up1 (up1 (up1 (up2 (mI M) 1020 k v) (1020 + 2) K) (1020 + 15) A) 1020 F x = up1 (up1 (up1 (mI M) (1020 + 2) K) (1020 + 15) A) 1020 F x
  by_cases c : x = 1020
  · subst c; rw [up1_eq, up1_eq]
  · rw [up1_ne c, up1_ne c]
    by_cases c1 : x = 1020 + 15
    · rw [c1, up1_eq, up1_eq]
    · rw [up1_ne c1, up1_ne c1]
      by_cases c2 : x = 1020 + 2
      · rw [c2, up1_eq, up1_eq]
      · rw [up1_ne c2, up1_ne c2, up2_o c]
abbrev zRow (z : ST) : RW := rwA (zRes z) (sMd (zS z)) (sSl (zS z)) (zT z).2 ((zT z).1 / 2) 0 (sWo (zS z), 0, 0)
def zRw (z : ST) : ST := (((zRow z).1, (zS z).2), zU z, zI z, zD z, (0, (zT z).2), (nI ((zRow z).2.2 + (zT z).1 % 2), zP z, zC z, zF z), zR z, zG z)
theorem b_row : Both g Y_Mc_row Y_Mo_row [] := by
  intro c z hc hO
  have h400 := hO.2.2.2.1
  by_cases h0 : (zT z).1 = 0
  · refine ⟨-6, zBad z 6, (hO.le (Nat.le_succ c)).bad, fun M h => ?_, fun M h => ?_⟩
    · skip
      have hC' := h.le (Nat.le_succ c)
      obtain ⟨pf, pg, hL, hSC, hTC, hIC, hDC, hPC, hNC, hBC, hZC⟩ := h
      obtain ⟨t0, ⟨r00, hSh⟩, ⟨r01, hTr⟩, ⟨r02, hTg⟩, ⟨r03, hWa⟩, ⟨r04, hWp⟩, ⟨r06, t921, r921a, r921b, hS0, hS1⟩, ⟨r07, t922⟩, ⟨r08, t923⟩, ⟨r010, hPa⟩, ⟨r011, hJu⟩, ⟨r012, hRe⟩, ⟨r013, hCu⟩, ⟨r014, hDe⟩, ⟨r018, t959⟩, hPf⟩ := id hL
      have t1 : mT M 1 = (6, 0) := hSh.1
      have r10 : mR M 1 0 = some 2 := hSh.2.1
      have hW2 : WoAt (mT M) (mR M) 2 := hSh.2.2.1
      have t2 : mT M 2 = (9, 0) := hW2.1
      have r20 : mR M 2 0 = some 3 := hW2.2.1
      have t3 : mT M 3 = (24, 4) := hW2.2.2.1
      have t31 : mT M 31 = (8, 0) := hTr.1
      have t924 : mT M 924 = (3, 0) := hPa.1
      have t934 : mT M 934 = (2, 0) := hJu.1
      have t938 : mT M 938 = (5, 0) := hRe.1
      have t947 : mT M 947 = (0, 0) := hCu.1
      have t952 : mT M 952 = (1, 0) := hDe.1
      have e9 := hPC.1
      refine cw_entry 2 pf_Mc_row rfl ?_
      refine wp_aload_n rfl (ck_get kk_Mc_row 0 rfl) ?_
      first | refine wp_getIv (ck_get kk_Mc_row 1 rfl) fl_Mc_52 (by assumption) (by assumption) ?_ | refine wp_getI (ck_get kk_Mc_row 1 rfl) fl_Mc_52 (by assumption) ?_
      first | refine wp_if_neN (t := 14) (ck_get kk_Mc_row 2 rfl) (by decide) (by omega) (fun hc4 => ?_) (fun hc4 => ?_) | refine wp_if_ne (t := 14) (ck_get kk_Mc_row 2 rfl) (by decide) (fun hc4 => ?_) (fun hc4 => ?_)
      · omega
      · refine wp_aload_n rfl (ck_get kk_Mc_row 3 rfl) ?_
        refine wp_bipush (v := (-6)) (by decide) (ck_get kk_Mc_row 4 rfl) ?_
        refine wp_cV1i (ck_get kk_Mc_row 5 rfl) ml_Mc_172 (by omega) (Nat.le_of_ble_eq_true rfl) (by assumption) (Ci.to (c_refuse (k := 6) (by decide) (by omega) (by omega) hL) ?_)
        rintro x M1 ⟨e1, e2⟩
        refine wp_ireturn (ck_get kk_Mc_row 6 rfl) rfl rfl ⟨_, rfl, ?_⟩
        exact ⟨e1, by rw [e2]; exact hC'.bad (by omega), by rw [e2]; exact MSame.bd⟩
    · skip
      obtain ⟨hM, hSM, hUM, hIM, hDM, hPM, hNM, hBM⟩ := id h
      have to0 := hM.1
      have e16 := hPM.1
      have eM : sI M 1020 16 (nI 0) = M := mk2_ext (M := M) (up2_id (show mI M 1020 16 = nI 0 by rw [e16, h0])) rfl
      refine cw_entry 4 pf_Mo_row rfl ?_
      refine wp_aload_n rfl (ck_get kk_Mo_row 0 rfl) ?_
      first | refine wp_getIv (ck_get kk_Mo_row 1 rfl) fl_Mo_179 (by assumption) (by assumption) ?_ | refine wp_getI (ck_get kk_Mo_row 1 rfl) fl_Mo_179 (by assumption) ?_
      refine wp_istore_n (ck_get kk_Mo_row 2 rfl) (by decide) rfl ?_
      refine wp_aload_n rfl (ck_get kk_Mo_row 3 rfl) ?_
      refine wp_iconst (v := nI 0) (by decide) (ck_get kk_Mo_row 4 rfl) ?_
      refine wp_putI (ck_get kk_Mo_row 5 rfl) fl_Mo_179 (by decide +kernel) (by assumption) (okI_int _) ?_
      rw [eM]
      refine wp_iload_n rfl (ck_get kk_Mo_row 6 rfl) ?_
      first | refine wp_if_neN (t := 21) (ck_get kk_Mo_row 7 rfl) (by decide) (by omega) (fun hc11 => ?_) (fun hc11 => ?_) | refine wp_if_ne (t := 21) (ck_get kk_Mo_row 7 rfl) (by decide) (fun hc11 => ?_) (fun hc11 => ?_)
      · omega
      · refine wp_aload_n rfl (ck_get kk_Mo_row 8 rfl) ?_
        refine wp_bipush (v := (-6)) (by decide) (ck_get kk_Mo_row 9 rfl) ?_
        refine wp_cV1i (ck_get kk_Mo_row 10 rfl) ml_Mo_146 (by omega) (Nat.le_of_ble_eq_true rfl) (by assumption) (Ci.to (m_refusesV (c := 6) (by decide) hM (by omega)) ?_)
        rintro x M1 ⟨e1, e2⟩
        refine wp_ireturn (ck_get kk_Mo_row 11 rfl) rfl rfl ⟨_, rfl, ?_⟩
        exact ⟨e1, by rw [e2]; exact h.bad (by omega), by rw [e2]; exact CSame.rf⟩
  · have hRO := resQ_ok (zS z) (sFo (zS z))
    obtain ⟨w1, w2⟩ := rwA_ok (md := sMd (zS z)) (salt := sSl (zS z)) hRO hO.2.2.2.2.1 ((zT z).1 / 2) 0 (sWo (zS z), 0, 0) hO.1.1
    refine ⟨nI (zRow z).2.1, zGood (zS (zRw z), (0, (zU z).2), (zRw z).2.2), ZOK.good ?_, fun M h => ?_, fun M h => ?_⟩
    · have h1 : ZOK (c + 1) z := hO.le (Nat.le_succ c)
      have hB : tot (sWo (zS z)) ≤ bC c := hO.1.2.1
      have hb : bC c + 760320 = bC (c + 1) := by unfold bC; omega
      obtain ⟨a1, a2, a3, a4, a5, a6⟩ := h1
      have w2' : tot (zRow z).1 ≤ tot (sWo (zS z)) + 99 * ((zT z).1 / 2) := w2
      exact ⟨a1.wo (w := (zRow z).1) w1 (by omega), ⟨Nat.zero_le _, fun i hi => absurd hi (Nat.not_lt_zero i)⟩, a3, Nat.zero_le _, a5, a6⟩
    · skip
      have hC' := h.le (Nat.le_succ c)
      obtain ⟨pf, pg, hL, hSC, hTC, hIC, hDC, hPC, hNC, hBC, hZC⟩ := h
      obtain ⟨t0, ⟨r00, hSh⟩, ⟨r01, hTr⟩, ⟨r02, hTg⟩, ⟨r03, hWa⟩, ⟨r04, hWp⟩, ⟨r06, t921, r921a, r921b, hS0, hS1⟩, ⟨r07, t922⟩, ⟨r08, t923⟩, ⟨r010, hPa⟩, ⟨r011, hJu⟩, ⟨r012, hRe⟩, ⟨r013, hCu⟩, ⟨r014, hDe⟩, ⟨r018, t959⟩, hPf⟩ := id hL
      have t1 : mT M 1 = (6, 0) := hSh.1
      have r10 : mR M 1 0 = some 2 := hSh.2.1
      have hW2 : WoAt (mT M) (mR M) 2 := hSh.2.2.1
      have t2 : mT M 2 = (9, 0) := hW2.1
      have r20 : mR M 2 0 = some 3 := hW2.2.1
      have t3 : mT M 3 = (24, 4) := hW2.2.2.1
      have t31 : mT M 31 = (8, 0) := hTr.1
      have t924 : mT M 924 = (3, 0) := hPa.1
      have t934 : mT M 934 = (2, 0) := hJu.1
      have t938 : mT M 938 = (5, 0) := hRe.1
      have t947 : mT M 947 = (0, 0) := hCu.1
      have t952 : mT M 952 = (1, 0) := hDe.1
      have e9 := hPC.1
      refine cw_entry 2 pf_Mc_row rfl ?_
      refine wp_aload_n rfl (ck_get kk_Mc_row 0 rfl) ?_
      first | refine wp_getIv (ck_get kk_Mc_row 1 rfl) fl_Mc_52 (by assumption) (by assumption) ?_ | refine wp_getI (ck_get kk_Mc_row 1 rfl) fl_Mc_52 (by assumption) ?_
      first | refine wp_if_neN (t := 14) (ck_get kk_Mc_row 2 rfl) (by decide) (by omega) (fun hc4 => ?_) (fun hc4 => ?_) | refine wp_if_ne (t := 14) (ck_get kk_Mc_row 2 rfl) (by decide) (fun hc4 => ?_) (fun hc4 => ?_)
      · refine wp_iconst (v := nI 0) (by decide) (ck_get kk_Mc_row 7 rfl) ?_
        refine wp_istore_n (ck_get kk_Mc_row 8 rfl) (by decide) rfl ?_
        refine wp_aload_n rfl (ck_get kk_Mc_row 9 rfl) ?_
        refine wp_iconst (v := nI 0) (by decide) (ck_get kk_Mc_row 10 rfl) ?_
        refine wp_putI (ck_get kk_Mc_row 11 rfl) fl_Mc_91 (by decide +kernel) (by assumption) (okI_int _) ?_
        refine wp_iconst (v := nI 0) (by decide) (ck_get kk_Mc_row 12 rfl) ?_
        refine wp_istore_n (ck_get kk_Mc_row 13 rfl) (by decide) rfl ?_
        refine l_row (M := M) (c := c) (z := z) (res := zRes z) (md := sMd (zS z)) (salt := sSl (zS z)) (bt := (zT z).2) (L := (zT z).1) hL (hSC.n hO.1) e9 h400 hPC.2 hO.2.2.2.2.1 hRO (R := zRow z) (fun I J x2 hC => ?_) ((zT z).1 / 2) 0 (sWo (zS z), 0, 0) (up2 (mI M) 0 15 (nI 0)) (mJ M) (by omega) (Nat.le_refl _) (Nat.le_refl _) hO.1.1 ?_ rfl
        · obtain ⟨c1, c2, c3, c4⟩ := hC
          refine wp_aload_n rfl (ck_get kk_Mc_row 64 rfl) ?_
          refine wp_iconst (v := nI 0) (by decide) (ck_get kk_Mc_row 65 rfl) ?_
          refine wp_putI (ck_get kk_Mc_row 66 rfl) fl_Mc_52 (by decide +kernel) (by assumption) (okI_int _) ?_
          refine wp_aload_n rfl (ck_get kk_Mc_row 67 rfl) ?_
          refine wp_getR (ck_get kk_Mc_row 68 rfl) fl_Mc_19 (by assumption) (by assumption) ?_
          refine wp_cV0v (ck_get kk_Mc_row 69 rfl) ml_Mc_182 (by omega) (Nat.le_of_ble_eq_true rfl) (by assumption) (Cv.to (c_Trclear (wf := fun s => slA (pf s)) (by exact hTr)) ?_)
          rintro M1 e1
          subst e1
          refine wp_aload_n rfl (ck_get kk_Mc_row 70 rfl) ?_
          refine wp_iload_n rfl (ck_get kk_Mc_row 71 rfl) ?_
          refine wp_cV1i (ck_get kk_Mc_row 72 rfl) ml_Mc_185 (by omega) (Nat.le_of_ble_eq_true rfl) (by assumption) (Ci.to (c_accept (pf := pf) (pg := pg) (by exact hL)) ?_)
          rintro x M1 ⟨e2, e3⟩
          refine wp_ireturn (ck_get kk_Mc_row 73 rfl) rfl rfl ⟨_, rfl, ?_⟩
          rw [e3]
          have e4 : ∀ x, x ≠ 0 → x < 2 ∨ 28 ≤ x → x < 934 ∨ 938 ≤ x → I x = mI M x ∧ J x = mJ M x := c4
          have hk : HiK (mT M) (mR M) (mI M) (mT M) (mR M) I := HiK.same (fun x hx => (e4 x (by omega) (by omega) (by omega)).1)
          have hCR1 : CR c (((zRow z).1, (zS z).2), zU z, zI z, zD z, zT z, (nI ((zRow z).2.2 + (zT z).1 % 2), zP z, zC z, zF z), zR z, zG z) (mk2 M I J) := ⟨pf, pg, hL, hSC.wo c1 ⟨(e4 1 (by omega) (by omega) (by omega)).1, (e4 28 (by omega) (by omega) (by omega)).1, (e4 29 (by omega) (by omega) (by omega)).1⟩ rfl hk, hTC.kept ⟨(e4 31 (by omega) (by omega) (by omega)).1, (e4 33 (by omega) (by omega) (by omega)).1⟩ (fun s hs x q1 q2 => e4 x (by have := slA_lt (hPf.1 s hs).1; omega) (by have := slA_lt (hPf.1 s hs).1; omega) (by have := slA_lt (hPf.1 s hs).1; omega)), hIC.kept (e4 922 (by omega) (by omega) (by omega)).1 (fun x q1 q2 => e4 x (by omega) (by omega) (by omega)) ⟨rfl, rfl⟩ hk, hDC.kept (c3 5 (by omega)) (fun x q1 q2 => e4 x (by omega) (by omega) (by omega)), hPC.kept (c3 9 (by omega)) (e4 923 (by omega) (by omega) (by omega)).1, ⟨c2, (c3 16 (by omega)).trans hNC.2.1, (c3 17 (by omega)).trans hNC.2.2.1, (congrFun (e4 924 (by omega) (by omega) (by omega)).1 1).trans hNC.2.2.2.1, fun q hq => (congrFun (e4 959 (by omega) (by omega) (by omega)).1 q).trans (hNC.2.2.2.2 q hq)⟩, hBC.kept rfl (e4 949 (by omega) (by omega) (by omega)).1 (fun v hv _ => ⟨rfl, (e4 v (by omega) (by omega) (by omega)).1⟩), hZC⟩
          have hP1 : CRp I (zT z) := hPC.kept (c3 9 (by omega)) (e4 923 (by omega) (by omega) (by omega)).1
          have hCR2 := hCR1.tape (I2 := up2 I 0 9 (nI 0)) (t := (0, (zT z).2)) (fun x q1 q2 => up2_o q1) (fun k hk => up2_k hk) up2_v (fun j hj => by rw [up2_o (by omega)]; exact hP1.2 j hj)
          refine ⟨e2, hCR2.clear.good, ?_⟩
          exact ((((MSame.mk2 (fun x a b => e4 x (by omega) (by omega) (by omega))).trans (MSame.s (by omega))).trans (MSame.s (by omega))).trans (MSame.s (by omega))).trans MSame.ac
        · exact ⟨hSC.1.kept (fun x q1 q2 => ⟨up2_o (by omega), rfl⟩), up2_v, fun k hk => up2_k hk, fun x q1 q2 q3 => ⟨up2_o q1, rfl⟩⟩
      · omega
    · skip
      obtain ⟨hM, hSM, hUM, hIM, hDM, hPM, hNM, hBM⟩ := id h
      have to0 := hM.1
      have e16 := hPM.1
      have eM : sI (sI M 1020 16 (nI 0)) 1020 9 (nI ((zT z).1 % 2)) = wkM M 1020 (mI M (1020 + 2)) (mJ M (1020 + 3)) (mI M (1020 + 15)) (up1 (up1 (mI M 1020) 16 (nI 0)) 9 (nI ((zT z).1 % 2))) := by
        conv => lhs; rw [← wk_id (M := M) (o := 1020)]
        rw [wk_sF, wk_sF]
      refine cw_entry 4 pf_Mo_row rfl ?_
      refine wp_aload_n rfl (ck_get kk_Mo_row 0 rfl) ?_
      first | refine wp_getIv (ck_get kk_Mo_row 1 rfl) fl_Mo_179 (by assumption) (by assumption) ?_ | refine wp_getI (ck_get kk_Mo_row 1 rfl) fl_Mo_179 (by assumption) ?_
      refine wp_istore_n (ck_get kk_Mo_row 2 rfl) (by decide) rfl ?_
      refine wp_aload_n rfl (ck_get kk_Mo_row 3 rfl) ?_
      refine wp_iconst (v := nI 0) (by decide) (ck_get kk_Mo_row 4 rfl) ?_
      refine wp_putI (ck_get kk_Mo_row 5 rfl) fl_Mo_179 (by decide +kernel) (by assumption) (okI_int _) ?_
      refine wp_iload_n rfl (ck_get kk_Mo_row 6 rfl) ?_
      first | refine wp_if_neN (t := 21) (ck_get kk_Mo_row 7 rfl) (by decide) (by omega) (fun hc11 => ?_) (fun hc11 => ?_) | refine wp_if_ne (t := 21) (ck_get kk_Mo_row 7 rfl) (by decide) (fun hc11 => ?_) (fun hc11 => ?_)
      · refine wp_iconst (v := nI 0) (by decide) (ck_get kk_Mo_row 12 rfl) ?_
        refine wp_istore_n (ck_get kk_Mo_row 13 rfl) (by decide) rfl ?_
        refine wp_aload_n rfl (ck_get kk_Mo_row 14 rfl) ?_
        refine wp_iload_n rfl (ck_get kk_Mo_row 15 rfl) ?_
        refine wp_iconst (v := nI 2) (by decide) (ck_get kk_Mo_row 16 rfl) ?_
        first | refine wp_iremN (ck_get kk_Mo_row 17 rfl) (by omega) (by omega) (by omega) ?_ | refine wp_irem (by decide) (ck_get kk_Mo_row 17 rfl) ?_
        refine wp_putI (ck_get kk_Mo_row 18 rfl) fl_Mo_182 (by decide +kernel) (by assumption) (okI_int _) ?_
        refine wp_iconst (v := nI 0) (by decide) (ck_get kk_Mo_row 19 rfl) ?_
        refine wp_istore_n (ck_get kk_Mo_row 20 rfl) (by decide) rfl ?_
        rw [eM]
        refine l_moRow (M := M) (res := zRes z) (md := sMd (zS z)) (salt := sSl (zS z)) (bt := (zT z).2) (L := (zT z).1) (F0 := up1 (mI M 1020) 16 (nI 0)) (K0 := mI M (1020 + 2)) hM h400 hPM.2.1 hO.2.2.2.2.1 hRO (R := zRow z) (fun K P A F x3 x4 k1 k2 k3 k4 k5 => ?_) ((zT z).1 / 2) 0 (sWo (zS z), 0, 0) _ _ _ _ _ (by omega) (Nat.le_refl _) (Nat.le_refl _) hO.1.1 hSM.1 (fun _ _ => rfl) (hSM.n hO.1) ?_ (fun k q1 q2 => up1_ne q2) ?_ rfl
        · have hR1 := (h.tape (I2 := up2 (mI M) 1020 16 (nI 0)) (t := (0, (zT z).2)) (fun x q1 q2 q3 => up2_o q1) (fun k hk => up2_k hk) up2_v (fun j hj => by rw [up2_o (by omega)]; exact hPM.2.1 j hj))
          obtain ⟨n1, n2, n3, n4, n5, n6⟩ := hNM
          have hR2 := hR1.own (I2 := up2 (up2 (mI M) 1020 16 (nI 0)) 1020 9 (nI ((zRow z).2.2 + (zT z).1 % 2))) (b := nI ((zRow z).2.2 + (zT z).1 % 2)) (p := zP z) (cd := zC z) (f := zF z) (r := zR z) (fun x q1 q2 => up2_o q1) (fun k hk => up2_k (by omega)) (by rw [up2_k (by omega), up2_k (by omega)]; exact n5) up2_v (by rw [up2_k (by omega), up2_k (by omega)]; exact n2) (by rw [up2_k (by omega), up2_k (by omega)]; exact n3) (by rw [up2_k (by omega), up2_k (by omega)]; exact n4) (fun j hj => by rw [up2_o (by omega), up2_o (by omega)]; exact n6 j hj)
          have hR3 : MR (zRw z) (wkM M 1020 K P A F) := by
            have eB : wkM M 1020 K P A F = wkM (sI (sI M 1020 16 (nI 0)) 1020 9 (nI ((zRow z).2.2 + (zT z).1 % 2))) 1020 K P A F := by rw [wk_base, wk_base]
            rw [eB]
            refine MR.wk hR2 (s2 := ((zRow z).1, (zS z).2)) (h.2.1.wo k1 hO.1.2.2.2.2.2.2.2.2.1 k2) (fun k q => ?_) k5
            show F k = up2 (up2 (mI M) 1020 16 (nI 0)) 1020 9 (nI ((zRow z).2.2 + (zT z).1 % 2)) 1020 k
            by_cases c9 : k = 9
            · subst c9; rw [up2_v]; exact k3
            · rw [up2_k c9, k4 k (by unfold moW at q; omega) c9, up2_up1, up1_eq]
          refine wp_aload_n rfl (ck_get kk_Mo_row 69 rfl) ?_
          refine wp_iload_n rfl (ck_get kk_Mo_row 70 rfl) ?_
          refine wp_cV1i (ck_get kk_Mo_row 71 rfl) ml_Mo_149 (by omega) (Nat.le_of_ble_eq_true rfl) (by assumption) (Ci.to (m_settledT hR3) ?_)
          rintro x M1 ⟨e2, e3, e4⟩
          refine wp_ireturn (ck_get kk_Mo_row 72 rfl) rfl rfl ⟨_, rfl, ?_⟩
          exact ⟨e2, e3, CSame.wk.trans e4⟩
        · rw [up1_eq, Nat.zero_add]
        · rw [up1_ne (by omega), up1_ne (by omega)]; exact hNM.2.2.2.2.1
      · omega
end RWB
