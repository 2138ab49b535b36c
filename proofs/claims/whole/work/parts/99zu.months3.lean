/-! ===== months ===== -/
section MOP
variable {g : Gl} {M : Mem}
theorem i1m : (1000000 : Int32) = nI 1000000 := by decide
def zDr (z : ST) (w : WS) : ST := (zS z, zU z, zI z, some w, z.2.2.2.2)
theorem b_months {a b : Int32} : Both g Y_Mc_months Y_Mo_months [.int a, .int b] := by
  intro c z hc hO
  have hRO := resQ_ok (zS z) (sFo (zS z))
  have hbc : bC c < 400000000 := by unfold bC; omega
  by_cases hin : inB a 1000001 = true ∧ inB b 61 = true ∧ ¬ b = nI 0
  · obtain ⟨ba, bb, hb0⟩ := hin
    obtain ⟨sd, hsd, rfl⟩ := inB_t ba (by omega)
    obtain ⟨n, hn, rfl⟩ := inB_t bb (by omega)
    have hn0 : 1 ≤ n := by
      rcases Nat.eq_zero_or_pos n with e | e
      · subst e; exact absurd rfl hb0
      · exact e
    obtain ⟨R, hR⟩ := dmR_ex (zRes z) (sMd (zS z)) (sSl (zS z)) n sd 0 (sWo (zS z))
    refine ⟨nI R.1, zGood (zDr z R.2), ZOK.good (hO.le (Nat.le_succ c)), fun M h => ?_, fun M h => ?_⟩
    · have hCR := h
      have hC' := h.le (Nat.le_succ c)
      obtain ⟨pf, pg, hL, hSC, hTC, hIC, hDC, hPC, hNC, hBC, hZC⟩ := h
      obtain ⟨t0, ⟨r00, hSh⟩, ⟨r01, hTr⟩, ⟨r02, hTg⟩, ⟨r03, hWa⟩, ⟨r04, hWp⟩, ⟨r06, t921, r921a, r921b, hS0, hS1⟩, ⟨r07, t922⟩, ⟨r08, t923⟩, ⟨r010, hPa⟩, ⟨r011, hJu⟩, ⟨r012, hRe⟩, ⟨r013, hCu⟩, ⟨r014, hDe⟩, ⟨r018, t959⟩, hPf⟩ := id hL
      have t1 : mT M 1 = (6, 0) := hSh.1
      have r10 : mR M 1 0 = some 2 := hSh.2.1
      have hW2 : WoAt (mT M) (mR M) 2 := hSh.2.2.1
      have t2 : mT M 2 = (9, 0) := hW2.1
      have r20 : mR M 2 0 = some 3 := hW2.2.1
      have t3 : mT M 3 = (24, 4) := hW2.2.2.1
      have t31 : mT M 31 = (8, 0) := hTr.1
      have t924 : mT M 924 = (3, 0) := hPa.1
      have t934 : mT M 934 = (2, 0) := hJu.1
      have t938 : mT M 938 = (5, 0) := hRe.1
      have t947 : mT M 947 = (0, 0) := hCu.1
      have t952 : mT M 952 = (1, 0) := hDe.1
      have t895 : mT M 895 = (9, 0) := hWp.1
      refine cw_entry 7 pf_Mc_months rfl ?_
      refine wp_iload_n rfl (ck_get kk_Mc_months 0 rfl) ?_
      first | refine wp_if_ltN (t := 22) (ck_get kk_Mc_months 1 rfl) (by decide) (by omega) (fun hc1 => ?_) (fun hc1 => ?_) | refine wp_if_lt (t := 22) (ck_get kk_Mc_months 1 rfl) (by decide) (fun hc1 => ?_) (fun hc1 => ?_)
      · exact hc1.elim
      · refine wp_iload_n rfl (ck_get kk_Mc_months 2 rfl) ?_
        refine wp_ldcw kl_Mc_368 (ck_get kk_Mc_months 3 rfl) ?_
        rw [i1m]
        first | refine wp_icmp_gtN (t := 22) (ck_get kk_Mc_months 4 rfl) (by decide) (by omega) (by omega) (fun hc8 => ?_) (fun hc8 => ?_) | refine wp_icmp_gt (t := 22) (ck_get kk_Mc_months 4 rfl) (by decide) (fun hc8 => ?_) (fun hc8 => ?_)
        · omega
        · refine wp_iload_n rfl (ck_get kk_Mc_months 5 rfl) ?_
          refine wp_iconst (v := nI 1) (by decide) (ck_get kk_Mc_months 6 rfl) ?_
          first | refine wp_icmp_ltN (t := 22) (ck_get kk_Mc_months 7 rfl) (by decide) (by omega) (by omega) (fun hc13 => ?_) (fun hc13 => ?_) | refine wp_icmp_lt (t := 22) (ck_get kk_Mc_months 7 rfl) (by decide) (fun hc13 => ?_) (fun hc13 => ?_)
          · omega
          · refine wp_iload_n rfl (ck_get kk_Mc_months 8 rfl) ?_
            refine wp_bipush (v := nI 60) (by decide) (ck_get kk_Mc_months 9 rfl) ?_
            first | refine wp_icmp_leN (t := 28) (ck_get kk_Mc_months 10 rfl) (by decide) (by omega) (by omega) (fun hc19 => ?_) (fun hc19 => ?_) | refine wp_icmp_le (t := 28) (ck_get kk_Mc_months 10 rfl) (by decide) (fun hc19 => ?_) (fun hc19 => ?_)
            · refine wp_aload_n rfl (ck_get kk_Mc_months 15 rfl) ?_
              refine wp_getR (ck_get kk_Mc_months 16 rfl) fl_Mc_33 (by assumption) (by assumption) ?_
              refine wp_aload_n rfl (ck_get kk_Mc_months 17 rfl) ?_
              refine wp_getR (ck_get kk_Mc_months 18 rfl) fl_Mc_12 (by assumption) (by assumption) ?_
              refine wp_getR (ck_get kk_Mc_months 19 rfl) fl_Mc_107 (by assumption) (by assumption) ?_
              refine wp_cV1v (ck_get kk_Mc_months 20 rfl) ml_Mc_230 (by omega) (Nat.le_of_ble_eq_true rfl) (by assumption) (Cv.to (c_WocopyFrom (v := 2) (w := 895) (by exact hW2) (by exact hWp) (by omega)) ?_)
              rintro M3 ⟨I3, J3, w1, w2, w3⟩
              subst w1
              refine wp_aload_n rfl (ck_get kk_Mc_months 21 rfl) ?_
              refine wp_iconst (v := nI 1) (by decide) (ck_get kk_Mc_months 22 rfl) ?_
              refine wp_putI (ck_get kk_Mc_months 23 rfl) fl_Mc_36 (by decide +kernel) (by assumption) (by first | exact okI_b0 | exact okI_b1) ?_
              refine wp_iconst (v := nI 0) (by decide) (ck_get kk_Mc_months 24 rfl) ?_
              refine wp_istore_n (ck_get kk_Mc_months 25 rfl) (by decide) rfl ?_
              refine wp_iload_n rfl (ck_get kk_Mc_months 26 rfl) ?_
              refine wp_i2l (ck_get kk_Mc_months 27 rfl) ?_
              refine wp_lstore (ck_get kk_Mc_months 28 rfl) (by decide) rfl ?_
              refine wp_iconst (v := nI 0) (by decide) (ck_get kk_Mc_months 29 rfl) ?_
              refine wp_istore (ck_get kk_Mc_months 30 rfl) (by decide) rfl ?_
              have g3 : ∀ x, x < 895 ∨ 921 ≤ x → I3 x = mI M x ∧ J3 x = mJ M x := fun x q => w3 x (by omega)
              generalize hI4 : up2 I3 0 5 (nI 1) = I4
              have eM4 : sI (mk2 M I3 J3) 0 5 (nI 1) = mk2 M I4 J3 := by rw [← hI4]
              rw [eM4]
              have i4 : ∀ x, x ≠ 0 → I4 x = I3 x := fun x a => by rw [← hI4, up2_o a]
              have i40 : ∀ y, y ≠ 5 → I4 0 y = mI M 0 y := fun y hy => by rw [← hI4, up2_k hy, (g3 0 (by omega)).1]
              have hN4 : ShN (mT M) (mR M) I4 (zRes z) (sMd (zS z)) (sSl (zS z)) := (hSC.n hO.1).kept (by rw [i4 1 (by omega), (g3 1 (by omega)).1]) (fun x hx => by rw [i4 x (by omega), (g3 x (by omega)).1])
              have hw4 : WoHas I4 J3 895 (sWo (zS z)) := (w2.has hSC.1 hO.1.1).kept (fun x q1 q2 => ⟨i4 x (by omega), rfl⟩)
              have hs0 : (nI sd).toInt64.toInt = (sd : Int) := by rw [Int32.toInt_toInt64, nI_toInt (by omega)]
              refine l_months (M := mk2 M I4 J3) (n := n) (B := bC c) (sd := nI sd) (pf := pf) (pg := pg) hL hN4 hRO (by omega) (by omega) (R := R) (fun I J lv x4 x6 x7 x8 x9 p1 p2 p3 => ?_) n 0 sd 0 (sWo (zS z)) ((nI sd).toInt64) I4 J3 none none none (by omega) hs0 (by omega) (by omega) hO.1.1 hO.1.2.1 hw4 (fun x _ _ => ⟨rfl, rfl⟩) hR
              refine wp_aload_n rfl (ck_get kk_Mc_months 98 rfl) ?_
              refine wp_iload_n rfl (ck_get kk_Mc_months 99 rfl) ?_
              refine wp_cV1i (ck_get kk_Mc_months 100 rfl) ml_Mc_185 (by omega) (Nat.le_of_ble_eq_true rfl) (by assumption) (Ci.to (c_accept (pf := pf) (pg := pg) (by exact hL)) ?_)
              rintro y M5 ⟨m1, m2⟩
              refine wp_ireturn (ck_get kk_Mc_months 101 rfl) rfl rfl ⟨_, rfl, ?_⟩
              rw [m2]
              have p4 : ∀ x, x < 895 ∨ 921 ≤ x → x < 934 ∨ 938 ≤ x → x ≠ 0 → I x = mI M x ∧ J x = mJ M x := fun x q1 q2 q3 => by
                obtain ⟨k1, k2⟩ := p2 x (by omega) q2
                exact ⟨by rw [k1]; show I4 x = _; rw [i4 x q3, (g3 x q1).1], by rw [k2]; exact (g3 x q1).2⟩
              have p40 : ∀ y, y ≠ 5 → I 0 y = mI M 0 y := fun y hy => by rw [(p2 0 (by omega) (by omega)).1]; exact i40 y hy
              have p45 : I 0 5 = nI 1 := by
                rw [(p2 0 (by omega) (by omega)).1]
                show I4 0 5 = _
                rw [← hI4, up2_v]
              have hk : HiK (mT M) (mR M) (mI M) (mT M) (mR M) I := HiK.same (fun x hx => (p4 x (by omega) (by omega) (by omega)).1)
              refine ⟨m1, CR.good (M := mk2 M I J) ⟨pf, pg, hL, hSC.kept (fun x q1 q2 => p4 x (by omega) (by omega) (by omega)) rfl hk, hTC.kept ⟨(p4 31 (by omega) (by omega) (by omega)).1, (p4 33 (by omega) (by omega) (by omega)).1⟩ (fun s hs x q1 q2 => by have := slA_lt (hPf.1 s hs).1; exact p4 x (by omega) (by omega) (by omega)), hIC.kept (p4 922 (by omega) (by omega) (by omega)).1 (fun x q1 q2 => p4 x (by omega) (by omega) (by omega)) ⟨rfl, rfl⟩ hk, ⟨p45, fun w hw => by cases hw; exact p1⟩, hPC.kept (p40 9 (by omega)) (p4 923 (by omega) (by omega) (by omega)).1, hNC.kept ⟨p40 15 (by omega), p40 16 (by omega), p40 17 (by omega)⟩ (congrFun (p4 924 (by omega) (by omega) (by omega)).1 1) (p4 959 (by omega) (by omega) (by omega)).1, hBC.kept rfl (p4 949 (by omega) (by omega) (by omega)).1 (fun v hv _ => ⟨rfl, (p4 v (by omega) (by omega) (by omega)).1⟩), hZC.le (Nat.le_succ c)⟩, ?_⟩
              exact (MSame.mk2 (M := M) (I := I) (J := J) (fun x q1 q2 => p4 x (by omega) (by omega) (by omega))).trans MSame.ac
            · omega
    · skip
      obtain ⟨hM, hSM, hUM, hIM, hDM, hPM, hNM, hBM⟩ := id h
      have to0 := hM.1
      have hl1 : decide (nI 1 ≤ nI n ∧ nI n ≤ nI 60) = true := decide_eq_true ⟨nI_le (by omega) (by omega), nI_le (by omega) (by omega)⟩
      refine cw_entry 2 pf_Mo_months rfl ?_
      refine wp_iload_n rfl (ck_get kk_Mo_months 0 rfl) ?_
      refine wp_iconst (v := nI 0) (by decide) (ck_get kk_Mo_months 1 rfl) ?_
      refine wp_ldc kl_Mo_200 (ck_get kk_Mo_months 2 rfl) ?_
      rw [i1m]
      refine wp_cS3i (ck_get kk_Mo_months 3 rfl) ml_Mo_18 (by omega) (Nat.le_of_ble_eq_true rfl) (Ci.to (m_lies (by omega)) ?_)
      rintro _ M1 ⟨rfl, eqm1⟩
      obtain rfl := eqm1.symm
      rw [ba]
      first | refine wp_if_eqN (t := 20) (ck_get kk_Mo_months 4 rfl) (by decide) (by omega) (fun hc7 => ?_) (fun hc7 => ?_) | refine wp_if_eq (t := 20) (ck_get kk_Mo_months 4 rfl) (by decide) (fun hc7 => ?_) (fun hc7 => ?_)
      · exact absurd hc7 (by decide)
      · refine wp_iload_n rfl (ck_get kk_Mo_months 5 rfl) ?_
        refine wp_iconst (v := nI 1) (by decide) (ck_get kk_Mo_months 6 rfl) ?_
        refine wp_bipush (v := nI 60) (by decide) (ck_get kk_Mo_months 7 rfl) ?_
        refine wp_cS3i (ck_get kk_Mo_months 8 rfl) ml_Mo_18 (by omega) (Nat.le_of_ble_eq_true rfl) (Ci.to (m_liesG) ?_)
        rintro _ M1 ⟨rfl, eqm1⟩
        obtain rfl := eqm1.symm
        rw [hl1]
        first | refine wp_if_neN (t := 26) (ck_get kk_Mo_months 9 rfl) (by decide) (by omega) (fun hc17 => ?_) (fun hc17 => ?_) | refine wp_if_ne (t := 26) (ck_get kk_Mo_months 9 rfl) (by decide) (fun hc17 => ?_) (fun hc17 => ?_)
        · refine wp_aload_n rfl (ck_get kk_Mo_months 14 rfl) ?_
          refine wp_iload_n rfl (ck_get kk_Mo_months 15 rfl) ?_
          refine wp_putI (ck_get kk_Mo_months 16 rfl) fl_Mo_549 (by decide +kernel) (by assumption) (okI_int _) ?_
          refine wp_aload_n rfl (ck_get kk_Mo_months 17 rfl) ?_
          refine wp_iconst (v := nI 1) (by decide) (ck_get kk_Mo_months 18 rfl) ?_
          refine wp_putI (ck_get kk_Mo_months 19 rfl) fl_Mo_559 (by decide +kernel) (by assumption) (by first | exact okI_b0 | exact okI_b1) ?_
          refine wp_aload_n rfl (ck_get kk_Mo_months 20 rfl) ?_
          refine wp_iconst (v := nI 0) (by decide) (ck_get kk_Mo_months 21 rfl) ?_
          refine wp_cV1v (ck_get kk_Mo_months 22 rfl) ml_Mo_508 (by omega) (Nat.le_of_ble_eq_true rfl) (by assumption) (Cv.to (m_laysAside (t := 0) (by exact hM) (by omega)) ?_)
          rintro M2 e2
          generalize hI3 : up1 (up2 (up2 (mI M) 1020 63 (nI sd)) 1020 62 (nI 1)) 1027 (cpL (mI M 1027) (mI M 1022) (369 * 0) 0 369) = I3
          generalize hJ3 : up1 (mJ M) 1028 (cpL (mJ M 1028) (mJ M 1023) (100 * 0) 0 100) = J3
          have e2' : M2 = mk2 M I3 J3 := by
            rw [e2, ← hI3, ← hJ3]
            refine mk2_ext (M := M) ?_ rfl
            show up1 (up2 (up2 (mI M) 1020 63 (nI sd)) 1020 62 (nI 1)) (1020 + 7) (cpL (up2 (up2 (mI M) 1020 63 (nI sd)) 1020 62 (nI 1) (1020 + 7)) (up2 (up2 (mI M) 1020 63 (nI sd)) 1020 62 (nI 1) (1020 + 2)) (369 * 0) 0 369) = _
            rw [up2_o (show 1020 + 7 ≠ 1020 by omega), up2_o (show 1020 + 7 ≠ 1020 by omega), up2_o (show 1020 + 2 ≠ 1020 by omega), up2_o (show 1020 + 2 ≠ 1020 by omega)]
          clear e2
          subst e2'
          have i3 : ∀ x, x ≠ 1020 → x ≠ 1027 → I3 x = mI M x := fun x a b => by rw [← hI3, up1_ne b, up2_o a, up2_o a]
          have i3f : ∀ k, k ≠ 62 → k ≠ 63 → I3 1020 k = mI M 1020 k := fun k a b => by rw [← hI3, up1_ne (by omega), up2_k a, up2_k b]
          have i362 : I3 1020 62 = nI 1 := by rw [← hI3, up1_ne (by omega), up2_v]
          have i363 : I3 1020 63 = nI sd := by rw [← hI3, up1_ne (by omega), up2_k (by omega), up2_v]
          have i3a : ∀ y, y < 369 → I3 1027 y = mI M 1022 y := fun y hy => by
            rw [← hI3, up1_eq]
            unfold cpL
            rw [if_pos (by omega), show 0 + (y - 369 * 0) = y by omega]
          have j3 : ∀ x, x ≠ 1028 → J3 x = mJ M x := fun x hx => by rw [← hJ3, up1_ne hx]
          have j3a : ∀ y, y < 100 → J3 1028 y = mJ M 1023 y := fun y hy => by
            rw [← hJ3, up1_eq]
            unfold cpL
            rw [if_pos (by omega), show 0 + (y - 100 * 0) = y by omega]
          have hW3 : MwHas (I3 1022) (J3 1023) 0 0 (sWo (zS z)) := by rw [i3 1022 (by omega) (by omega), j3 1023 (by omega)]; exact hSM.1
          have hN3 : MoN (I3 1022) (zRes z) (sMd (zS z)) (sSl (zS z)) := by rw [i3 1022 (by omega) (by omega)]; exact hSM.n hO.1
          have eW : mk2 M I3 J3 = wkM (mk2 M I3 J3) 1020 (I3 1022) (J3 1023) (I3 1035) (I3 1020) := (wk_id (M := mk2 M I3 J3) (o := 1020)).symm
          rw [eW]
          refine wp_iconst (v := nI 0) (by decide) (ck_get kk_Mo_months 23 rfl) ?_
          refine wp_istore_n (ck_get kk_Mo_months 24 rfl) (by decide) rfl ?_
          refine wp_iconst (v := nI 0) (by decide) (ck_get kk_Mo_months 25 rfl) ?_
          refine wp_istore (ck_get kk_Mo_months 26 rfl) (by decide) rfl ?_
          refine l_moMon (M := mk2 M I3 J3) (n := n) (B := bC c) (sd := nI sd) (K0 := I3 1022) (F0 := I3 1020) hM hRO (by omega) (by omega) (R := R) (fun K P A F x4 k1 k2 k3 k4 => ?_) n 0 sd 0 (sWo (zS z)) _ _ _ _ (by omega) (by omega) (by omega) hO.1.1 hO.1.2.1 hW3 (fun _ _ => rfl) hN3 i363 (fun _ _ _ => rfl) (by rw [i3f 27 (by omega) (by omega)]; exact hNM.2.2.2.2.1) hR
          generalize hW5 : wkM (mk2 M I3 J3) 1020 K P A F = W5
          have w2 : mI W5 1022 = K := by rw [← hW5]; exact wk_2 (o := 1020)
          have w3 : mJ W5 1023 = P := by rw [← hW5]; exact wk_J (o := 1020)
          have wo : mI W5 1020 = F := by rw [← hW5]; exact wk_o
          have wx : ∀ x, x ≠ 1020 → x ≠ 1022 → x ≠ 1035 → mI W5 x = I3 x := fun x a b d => by rw [← hW5]; exact wk_x a b d
          have wj : ∀ x, x ≠ 1023 → mJ W5 x = J3 x := fun x a => by rw [← hW5]; exact up1_ne a
          have wZ : W5.1 = M.1 := by rw [← hW5]
          have wT : mT W5 = mT M := by rw [← hW5]
          have wR : mR W5 = mR M := by rw [← hW5]
          have hM5 : MoAt (mT W5) (mR W5) 1020 := by rw [wT, wR]; exact hM
          clear hW5
          have em5 : mk2 W5 (up1 (mI W5) 1040 (mI W5 1040)) (mJ W5) = W5 := by rw [show up1 (mI W5) 1040 (mI W5 1040) = mI W5 from up1_id rfl]
          rw [← em5]
          refine wp_iconst (v := nI 0) (by decide) (ck_get kk_Mo_months 43 rfl) ?_
          refine wp_istore (ck_get kk_Mo_months 44 rfl) (by decide) rfl ?_
          refine l_moMis (M := W5) (ws := R.2) (P := P) hM5 (by rw [w2]; exact k1) (fun f hf => ?_) 4 0 (mI W5 1040) (by omega) (fun t' c h _ => absurd h (Nat.not_lt_zero t'))
          have em6 : mk2 (mk2 W5 (up1 (mI W5) 1040 f) (mJ W5)) (up1 (up1 (mI W5) 1040 f) 1055 (mI W5 1055)) (mJ W5) = mk2 W5 (up1 (mI W5) 1040 f) (mJ W5) := by
            rw [show up1 (up1 (mI W5) 1040 f) 1055 (mI W5 1055) = up1 (mI W5) 1040 f from up1_id (up1_ne (by omega))]
          rw [← em6]
          refine wp_iconst (v := nI 0) (by decide) (ck_get kk_Mo_months 53 rfl) ?_
          refine wp_istore (ck_get kk_Mo_months 54 rfl) (by decide) rfl ?_
          refine l_moCpy (M := mk2 W5 (up1 (mI W5) 1040 f) (mJ W5)) hM5 (fun f2 hf2 => ?_) 100 0 (mI W5 1055) (by omega) (fun y hy => absurd hy (Nat.not_lt_zero y))
          have hf3 : ∀ t c, t < 4 → c < 25 → f2 (25 * t + c) = msW R.2 t c := fun t c q1 q2 => by
            rw [hf2 _ (by omega)]
            show up1 (mI W5) 1040 f 1040 (25 * t + c) = _
            rw [up1_eq]; exact hf t c q1 q2
          generalize hI7 : up1 (up1 (mI W5) 1040 f) 1055 f2 = I7
          rw [show mk2 (mk2 W5 (up1 (mI W5) 1040 f) (mJ W5)) I7 (mJ (mk2 W5 (up1 (mI W5) 1040 f) (mJ W5))) = mk2 W5 I7 (mJ W5) from rfl]
          have i7 : ∀ x, x ≠ 1040 → x ≠ 1055 → I7 x = mI W5 x := fun x a b => by rw [← hI7, up1_ne b, up1_ne a]
          have i7a : I7 1055 = f2 := by rw [← hI7, up1_eq]
          have to5 := hM5.1
          refine wp_aload_n rfl (ck_get kk_Mo_months 68 rfl) ?_
          refine wp_iconst (v := nI 0) (by decide) (ck_get kk_Mo_months 69 rfl) ?_
          refine wp_cV1v (ck_get kk_Mo_months 70 rfl) ml_Mo_521 (by omega) (Nat.le_of_ble_eq_true rfl) (by assumption) (Cv.to (m_takesBack (t := 0) (by exact hM5) (by omega)) ?_)
          rintro M8 e8
          subst e8
          refine wp_aload_n rfl (ck_get kk_Mo_months 71 rfl) ?_
          refine wp_iload_n rfl (ck_get kk_Mo_months 72 rfl) ?_
          refine wp_cV1i (ck_get kk_Mo_months 73 rfl) ml_Mo_14 (by omega) (Nat.le_of_ble_eq_true rfl) (by assumption) (Ci.to (m_good (by exact hM5)) ?_)
          rintro y M9 ⟨m1, m2⟩
          refine wp_ireturn (ck_get kk_Mo_months 74 rfl) rfl rfl ⟨_, rfl, ?_⟩
          rw [m2]
          generalize hK8 : cpL (I7 (1020 + 2)) (I7 (1020 + 7)) 0 (369 * 0) 369 = K8
          generalize hP8 : cpL (mJ W5 (1020 + 3)) (mJ W5 (1020 + 8)) 0 (100 * 0) 100 = P8
          have eM8 : mk2 (mk2 W5 I7 (mJ W5)) (up1 (mI (mk2 W5 I7 (mJ W5))) (1020 + 2) K8) (up1 (mJ (mk2 W5 I7 (mJ W5))) (1020 + 3) P8) = mk2 M (up1 I7 1022 K8) (up1 (mJ W5) 1023 P8) := by
            show (W5.1, mT W5, _, _, mR W5) = (M.1, mT M, _, _, mR M)
            rw [wZ, wT, wR]
          rw [eM8]
          have hKa : ∀ y, K8 y = mI M 1022 y := fun y => by
            rw [← hK8]
            unfold cpL
            by_cases q : y < 369
            · rw [if_pos (by omega), i7 (1020 + 7) (by omega) (by omega), wx (1020 + 7) (by omega) (by omega) (by omega), show 369 * 0 + (y - 0) = y by omega]; exact i3a y q
            · rw [if_neg (by omega), i7 (1020 + 2) (by omega) (by omega), show mI W5 (1020 + 2) = K from w2, k2 y (by omega), i3 1022 (by omega) (by omega)]
          have hPa : ∀ y, y < 100 → P8 y = mJ M 1023 y := fun y q => by
            rw [← hP8]
            unfold cpL
            rw [if_pos (by omega), wj (1020 + 8) (by omega), show 100 * 0 + (y - 0) = y by omega]; exact j3a y q
          have fF : ∀ k, k < 25 ∨ 29 ≤ k → k ≠ 62 → k ≠ 63 → up1 I7 1022 K8 1020 k = mI M 1020 k := fun k q1 q2 q3 => by rw [up1_ne (by omega), i7 1020 (by omega) (by omega), wo, k3 k q1 q3, i3f k q2 q3]
          have f62 : up1 I7 1022 K8 1020 62 = nI 1 := by rw [up1_ne (by omega), i7 1020 (by omega) (by omega), wo, k3 62 (by omega) (by omega), i362]
          have f27 : ∃ b, up1 I7 1022 K8 1020 27 = bI b := by rw [up1_ne (by omega), i7 1020 (by omega) (by omega), wo]; exact k4
          have fx : ∀ x, x ≠ 1020 → x ≠ 1022 → x ≠ 1027 → x ≠ 1035 → x ≠ 1040 → x ≠ 1055 → up1 I7 1022 K8 x = mI M x := fun x a1 a2 a3 a4 a5 a6 => by rw [up1_ne a2, i7 x a5 a6, wx x a1 a2 a4, i3 x a1 a3]
          have fj : ∀ x, x ≠ 1023 → x ≠ 1028 → up1 (mJ W5) 1023 P8 x = mJ M x := fun x a1 a2 => by rw [up1_ne a1, wj x a1, j3 x a2]
          refine ⟨m1, MR.good ⟨hM, ?_, ?_, ?_, ⟨?_, fun w hw t c q1 q2 => ?_⟩, ?_, ?_, ?_⟩, ?_⟩
          · show ShM (up1 I7 1022 K8 1022) (up1 (mJ W5) 1023 P8 1023) (zS z)
            rw [up1_eq, up1_eq]
            exact hSM.kb hO.1 (fun x _ => hKa x) hPa
          · show MRu (up1 I7 1022 K8) (up1 (mJ W5) 1023 P8) (zU z)
            unfold MRu at hUM ⊢
            rw [fF 36 (by omega) (by omega) (by omega), fx 1036 (by omega) (by omega) (by omega) (by omega) (by omega) (by omega), fj 1037 (by omega) (by omega)]; exact hUM
          · show MRi (up1 I7 1022 K8) (up1 (mJ W5) 1023 P8) (zI z)
            unfold MRi at hIM ⊢
            rw [fx 1024 (by omega) (by omega) (by omega) (by omega) (by omega) (by omega), fx 1026 (by omega) (by omega) (by omega) (by omega) (by omega) (by omega), fj 1025 (by omega) (by omega)]; exact hIM
          · exact f62
          · cases hw
            show up1 I7 1022 K8 1055 (25 * t + c) = _
            rw [up1_ne (by omega), i7a]; exact hf3 t c q1 q2
          · show MRp (up1 I7 1022 K8) (zT z)
            unfold MRp at hPM ⊢
            rw [fF 16 (by omega) (by omega) (by omega), fx 1030 (by omega) (by omega) (by omega) (by omega) (by omega) (by omega), fx 1029 (by omega) (by omega) (by omega) (by omega) (by omega) (by omega)]; exact hPM
          · show MRn (up1 I7 1022 K8) z
            obtain ⟨n1, n2, n3, n4, n5, n6⟩ := hNM
            exact ⟨by rw [fF 9 (by omega) (by omega) (by omega)]; exact n1, by rw [fF 54 (by omega) (by omega) (by omega)]; exact n2, by rw [fF 0 (by omega) (by omega) (by omega)]; exact n3, by rw [fF 17 (by omega) (by omega) (by omega)]; exact n4, f27, by rw [fx 1021 (by omega) (by omega) (by omega) (by omega) (by omega) (by omega)]; exact n6⟩
          · show MRb (up1 I7 1022 K8) (zG z)
            unfold MRb at hBM ⊢
            rw [fF 42 (by omega) (by omega) (by omega), fx 1043 (by omega) (by omega) (by omega) (by omega) (by omega) (by omega)]; exact hBM
          · exact (CSame.mk2 (M := M) (I := up1 I7 1022 K8) (J := up1 (mJ W5) 1023 P8) (fun x q => ⟨fx x (by omega) (by omega) (by omega) (by omega) (by omega) (by omega), fj x (by omega) (by omega)⟩)).trans CSame.gd
        · exact absurd hc17 (by decide)
  · have hno : ∀ (q1 : ¬ a < nI 0) (q2 : ¬ nI 1000000 < a) (q3 : ¬ b < nI 1) (q4 : ¬ nI 60 < b), False := fun q1 q2 q3 q4 => by
      rcases i32c a 1000001 (by omega) with ⟨j, hj, rfl⟩ | e
      · rcases i32c b 61 (by omega) with ⟨k, hk, rfl⟩ | e
        · refine hin ⟨inB_nI hj (by omega), inB_nI hk (by omega), fun e => ?_⟩
          rw [e] at q3
          exact q3 (by decide)
        · exact i32o e 1 60 rfl (by omega) (by omega) q3 q4
      · exact i32o e 0 1000000 rfl (by omega) (by omega) q1 q2
    refine ⟨-1, zBad z 1, (hO.le (Nat.le_succ c)).bad, fun M h => ?_, fun M h => ?_⟩
    · skip
      have hC' := h.le (Nat.le_succ c)
      obtain ⟨pf, pg, hL, hSC, hTC, hIC, hDC, hPC, hNC, hBC, hZC⟩ := h
      obtain ⟨t0, ⟨r00, hSh⟩, ⟨r01, hTr⟩, ⟨r02, hTg⟩, ⟨r03, hWa⟩, ⟨r04, hWp⟩, ⟨r06, t921, r921a, r921b, hS0, hS1⟩, ⟨r07, t922⟩, ⟨r08, t923⟩, ⟨r010, hPa⟩, ⟨r011, hJu⟩, ⟨r012, hRe⟩, ⟨r013, hCu⟩, ⟨r014, hDe⟩, ⟨r018, t959⟩, hPf⟩ := id hL
      have t1 : mT M 1 = (6, 0) := hSh.1
      have r10 : mR M 1 0 = some 2 := hSh.2.1
      have hW2 : WoAt (mT M) (mR M) 2 := hSh.2.2.1
      have t2 : mT M 2 = (9, 0) := hW2.1
      have r20 : mR M 2 0 = some 3 := hW2.2.1
      have t3 : mT M 3 = (24, 4) := hW2.2.2.1
      have t31 : mT M 31 = (8, 0) := hTr.1
      have t924 : mT M 924 = (3, 0) := hPa.1
      have t934 : mT M 934 = (2, 0) := hJu.1
      have t938 : mT M 938 = (5, 0) := hRe.1
      have t947 : mT M 947 = (0, 0) := hCu.1
      have t952 : mT M 952 = (1, 0) := hDe.1
      refine cw_entry 7 pf_Mc_months rfl ?_
      refine wp_iload_n rfl (ck_get kk_Mc_months 0 rfl) ?_
      refine wp_if_lt (t := 22) (ck_get kk_Mc_months 1 rfl) (by decide) (fun hc1 => ?_) (fun hc1 => ?_)
      · refine wp_aload_n rfl (ck_get kk_Mc_months 11 rfl) ?_
        refine wp_iconst (v := (-1)) (by decide) (ck_get kk_Mc_months 12 rfl) ?_
        refine wp_cV1i (ck_get kk_Mc_months 13 rfl) ml_Mc_172 (by omega) (Nat.le_of_ble_eq_true rfl) (by assumption) (Ci.to (c_refuse (k := 1) (by decide) (by omega) (by omega) hL) ?_)
        rintro x M1 ⟨e1, e2⟩
        refine wp_ireturn (ck_get kk_Mc_months 14 rfl) rfl rfl ⟨_, rfl, ?_⟩
        exact ⟨e1, by rw [e2]; exact hC'.bad (by omega), by rw [e2]; exact MSame.bd⟩
      · refine wp_iload_n rfl (ck_get kk_Mc_months 2 rfl) ?_
        refine wp_ldcw kl_Mc_368 (ck_get kk_Mc_months 3 rfl) ?_
        rw [i1m]
        refine wp_icmp_gt (t := 22) (ck_get kk_Mc_months 4 rfl) (by decide) (fun hc8 => ?_) (fun hc8 => ?_)
        · refine wp_aload_n rfl (ck_get kk_Mc_months 11 rfl) ?_
          refine wp_iconst (v := (-1)) (by decide) (ck_get kk_Mc_months 12 rfl) ?_
          refine wp_cV1i (ck_get kk_Mc_months 13 rfl) ml_Mc_172 (by omega) (Nat.le_of_ble_eq_true rfl) (by assumption) (Ci.to (c_refuse (k := 1) (by decide) (by omega) (by omega) hL) ?_)
          rintro x M1 ⟨e1, e2⟩
          refine wp_ireturn (ck_get kk_Mc_months 14 rfl) rfl rfl ⟨_, rfl, ?_⟩
          exact ⟨e1, by rw [e2]; exact hC'.bad (by omega), by rw [e2]; exact MSame.bd⟩
        · refine wp_iload_n rfl (ck_get kk_Mc_months 5 rfl) ?_
          refine wp_iconst (v := nI 1) (by decide) (ck_get kk_Mc_months 6 rfl) ?_
          refine wp_icmp_lt (t := 22) (ck_get kk_Mc_months 7 rfl) (by decide) (fun hc13 => ?_) (fun hc13 => ?_)
          · refine wp_aload_n rfl (ck_get kk_Mc_months 11 rfl) ?_
            refine wp_iconst (v := (-1)) (by decide) (ck_get kk_Mc_months 12 rfl) ?_
            refine wp_cV1i (ck_get kk_Mc_months 13 rfl) ml_Mc_172 (by omega) (Nat.le_of_ble_eq_true rfl) (by assumption) (Ci.to (c_refuse (k := 1) (by decide) (by omega) (by omega) hL) ?_)
            rintro x M1 ⟨e1, e2⟩
            refine wp_ireturn (ck_get kk_Mc_months 14 rfl) rfl rfl ⟨_, rfl, ?_⟩
            exact ⟨e1, by rw [e2]; exact hC'.bad (by omega), by rw [e2]; exact MSame.bd⟩
          · refine wp_iload_n rfl (ck_get kk_Mc_months 8 rfl) ?_
            refine wp_bipush (v := nI 60) (by decide) (ck_get kk_Mc_months 9 rfl) ?_
            refine wp_icmp_le (t := 28) (ck_get kk_Mc_months 10 rfl) (by decide) (fun hc19 => ?_) (fun hc19 => ?_)
            · exact (hno hc1 hc8 hc13 (fun h => by have a := Int32.lt_iff_toInt_lt.mp h; have b := Int32.le_iff_toInt_le.mp hc19; omega)).elim
            · refine wp_aload_n rfl (ck_get kk_Mc_months 11 rfl) ?_
              refine wp_iconst (v := (-1)) (by decide) (ck_get kk_Mc_months 12 rfl) ?_
              refine wp_cV1i (ck_get kk_Mc_months 13 rfl) ml_Mc_172 (by omega) (Nat.le_of_ble_eq_true rfl) (by assumption) (Ci.to (c_refuse (k := 1) (by decide) (by omega) (by omega) hL) ?_)
              rintro x M1 ⟨e1, e2⟩
              refine wp_ireturn (ck_get kk_Mc_months 14 rfl) rfl rfl ⟨_, rfl, ?_⟩
              exact ⟨e1, by rw [e2]; exact hC'.bad (by omega), by rw [e2]; exact MSame.bd⟩
    · skip
      obtain ⟨hM, hSM, hUM, hIM, hDM, hPM, hNM, hBM⟩ := id h
      have to0 := hM.1
      refine cw_entry 2 pf_Mo_months rfl ?_
      refine wp_iload_n rfl (ck_get kk_Mo_months 0 rfl) ?_
      refine wp_iconst (v := nI 0) (by decide) (ck_get kk_Mo_months 1 rfl) ?_
      refine wp_ldc kl_Mo_200 (ck_get kk_Mo_months 2 rfl) ?_
      rw [i1m]
      refine wp_cS3i (ck_get kk_Mo_months 3 rfl) ml_Mo_18 (by omega) (Nat.le_of_ble_eq_true rfl) (Ci.to (m_lies (by omega)) ?_)
      rintro _ M1 ⟨rfl, eqm1⟩
      obtain rfl := eqm1.symm
      refine wp_if_eq (t := 20) (ck_get kk_Mo_months 4 rfl) (by decide) (fun hc7 => ?_) (fun hc7 => ?_)
      · refine wp_aload_n rfl (ck_get kk_Mo_months 10 rfl) ?_
        refine wp_iconst (v := (-1)) (by decide) (ck_get kk_Mo_months 11 rfl) ?_
        refine wp_cV1i (ck_get kk_Mo_months 12 rfl) ml_Mo_146 (by omega) (Nat.le_of_ble_eq_true rfl) (by assumption) (Ci.to (m_refusesV (c := 1) (by decide) hM (by omega)) ?_)
        rintro x M1 ⟨e1, e2⟩
        refine wp_ireturn (ck_get kk_Mo_months 13 rfl) rfl rfl ⟨_, rfl, ?_⟩
        exact ⟨e1, by rw [e2]; exact h.bad (by omega), by rw [e2]; exact CSame.rf⟩
      · refine wp_iload_n rfl (ck_get kk_Mo_months 5 rfl) ?_
        refine wp_iconst (v := nI 1) (by decide) (ck_get kk_Mo_months 6 rfl) ?_
        refine wp_bipush (v := nI 60) (by decide) (ck_get kk_Mo_months 7 rfl) ?_
        refine wp_cS3i (ck_get kk_Mo_months 8 rfl) ml_Mo_18 (by omega) (Nat.le_of_ble_eq_true rfl) (Ci.to (m_liesG) ?_)
        rintro _ M1 ⟨rfl, eqm1⟩
        obtain rfl := eqm1.symm
        refine wp_if_ne (t := 26) (ck_get kk_Mo_months 9 rfl) (by decide) (fun hc17 => ?_) (fun hc17 => ?_)
        · exfalso
          have q := of_decide_eq_true (bI_1 hc17)
          obtain ⟨j, hj, rfl⟩ := inB_t (bI_1 hc7) (by omega)
          exact hno (nI_pos (by omega)) (fun h => by have := (nI_ltI (by omega) (by omega)).mp h; omega) (fun h => by have a := Int32.lt_iff_toInt_lt.mp h; have b := Int32.le_iff_toInt_le.mp q.1; omega) (fun h => by have a := Int32.lt_iff_toInt_lt.mp h; have b := Int32.le_iff_toInt_le.mp q.2; omega)
        · refine wp_aload_n rfl (ck_get kk_Mo_months 10 rfl) ?_
          refine wp_iconst (v := (-1)) (by decide) (ck_get kk_Mo_months 11 rfl) ?_
          refine wp_cV1i (ck_get kk_Mo_months 12 rfl) ml_Mo_146 (by omega) (Nat.le_of_ble_eq_true rfl) (by assumption) (Ci.to (m_refusesV (c := 1) (by decide) hM (by omega)) ?_)
          rintro x M1 ⟨e1, e2⟩
          refine wp_ireturn (ck_get kk_Mo_months 13 rfl) rfl rfl ⟨_, rfl, ?_⟩
          exact ⟨e1, by rw [e2]; exact h.bad (by omega), by rw [e2]; exact CSame.rf⟩
end MOP
