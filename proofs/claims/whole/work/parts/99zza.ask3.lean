/-! ===== ask ===== -/
section ASC
variable {g : Gl} {M : Mem}
/-- the size with the fewest alike, how many -/
def akF (al : Nat → Nat) : Nat → Nat × Nat
  | 0 => (0, al 0)
  | c + 1 => if al (c + 1) < (akF al c).2 then (c + 1, al (c + 1)) else akF al c
theorem akF_le {al : Nat → Nat} (h : ∀ c, al c ≤ 4) : ∀ c, (akF al c).2 ≤ 4 ∧ (akF al c).1 ≤ c
  | 0 => ⟨h 0, Nat.le_refl _⟩
  | c + 1 => by
    have := akF_le h c
    unfold akF
    split
    · exact ⟨h _, Nat.le_refl _⟩
    · exact ⟨this.1, by omega⟩
abbrev alW (w : WS) (S : Nat) : Nat → Nat := fun c => acA (eqW w c) S 4 0 0
theorem alW_le (w : WS) (S c : Nat) : alW w S c ≤ 4 := (acA_le 4 0 0 (by omega) rfl).1
theorem i9m : (1000000000 : Int32) = nI 1000000000 := by decide
theorem b_ask {a : Int32} : Both g Y_Mc_ask Y_Mo_ask [.int a] := by
  intro c z hc hO
  have hS16 := cbN_lt (s := zS z) 4
  have hal := alW_le (sWo (zS z)) (cbN (zS z) 4)
  by_cases hin : inB a 2 = true
  · obtain ⟨j, hj, rfl⟩ := inB_t hin (by omega)
    by_cases h0 : cbN (zS z) 4 = 0
    · refine ⟨-1, z, hO.le (by omega), fun M h => ?_, fun M h => ?_⟩
      · have hCR := h
        have hC' := h.le (Nat.le_succ c)
        obtain ⟨pf, pg, hL, hSC, hTC, hIC, hDC, hPC, hNC, hBC, hZC⟩ := h
        obtain ⟨t0, ⟨r00, hSh⟩, ⟨r01, hTr⟩, ⟨r02, hTg⟩, ⟨r03, hWa⟩, ⟨r04, hWp⟩, ⟨r06, t921, r921a, r921b, hS0, hS1⟩, ⟨r07, t922⟩, ⟨r08, t923⟩, ⟨r010, hPa⟩, ⟨r011, hJu⟩, ⟨r012, hRe⟩, ⟨r013, hCu⟩, ⟨r014, hDe⟩, ⟨r018, t959⟩, hPf⟩ := id hL
        have t1 : mT M 1 = (6, 0) := hSh.1
        have r10 : mR M 1 0 = some 2 := hSh.2.1
        have hW2 : WoAt (mT M) (mR M) 2 := hSh.2.2.1
        have t2 : mT M 2 = (9, 0) := hW2.1
        have r20 : mR M 2 0 = some 3 := hW2.2.1
        have t3 : mT M 3 = (24, 4) := hW2.2.2.1
        have t31 : mT M 31 = (8, 0) := hTr.1
        have t924 : mT M 924 = (3, 0) := hPa.1
        have t934 : mT M 934 = (2, 0) := hJu.1
        have t938 : mT M 938 = (5, 0) := hRe.1
        have t947 : mT M 947 = (0, 0) := hCu.1
        have t952 : mT M 952 = (1, 0) := hDe.1
        refine cw_entry 5 pf_Mc_ask rfl ?_
        refine wp_aload_n rfl (ck_get kk_Mc_ask 0 rfl) ?_
        refine wp_cV0i (ck_get kk_Mc_ask 1 rfl) ml_Mc_355 (by omega) (Nat.le_of_ble_eq_true rfl) (by assumption) (Ci.to (c_canBe hCR hO) ?_)
        rintro _ M1 ⟨rfl, eqm1⟩
        obtain rfl := eqm1.symm
        refine wp_istore_n (ck_get kk_Mc_ask 2 rfl) (by decide) rfl ?_
        refine wp_iload_n rfl (ck_get kk_Mc_ask 3 rfl) ?_
        first | refine wp_if_eqN (t := 18) (ck_get kk_Mc_ask 4 rfl) (by decide) (by omega) (fun hc6 => ?_) (fun hc6 => ?_) | refine wp_if_eq (t := 18) (ck_get kk_Mc_ask 4 rfl) (by decide) (fun hc6 => ?_) (fun hc6 => ?_)
        · refine wp_iconst (v := (-1)) (by decide) (ck_get kk_Mc_ask 10 rfl) ?_
          refine wp_ireturn (ck_get kk_Mc_ask 11 rfl) rfl rfl ⟨_, rfl, ?_⟩
          exact ⟨rfl, hC', MSame.refl _⟩
        · omega
      · skip
        obtain ⟨hM, hSM, hUM, hIM, hDM, hPM, hNM, hBM⟩ := id h
        have to0 := hM.1
        refine cw_entry 5 pf_Mo_ask rfl ?_
        refine wp_iload_n rfl (ck_get kk_Mo_ask 0 rfl) ?_
        refine wp_iconst (v := nI 0) (by decide) (ck_get kk_Mo_ask 1 rfl) ?_
        refine wp_iconst (v := nI 1) (by decide) (ck_get kk_Mo_ask 2 rfl) ?_
        refine wp_cS3i (ck_get kk_Mo_ask 3 rfl) ml_Mo_18 (by omega) (Nat.le_of_ble_eq_true rfl) (Ci.to (m_lies (by omega)) ?_)
        rintro _ M1 ⟨rfl, eqm1⟩
        obtain rfl := eqm1.symm
        rw [hin]
        first | refine wp_if_neN (t := 11) (ck_get kk_Mo_ask 4 rfl) (by decide) (by omega) (fun hc6 => ?_) (fun hc6 => ?_) | refine wp_if_ne (t := 11) (ck_get kk_Mo_ask 4 rfl) (by decide) (fun hc6 => ?_) (fun hc6 => ?_)
        · refine wp_aload_n rfl (ck_get kk_Mo_ask 7 rfl) ?_
          refine wp_cV0i (ck_get kk_Mo_ask 8 rfl) ml_Mo_498 (by omega) (Nat.le_of_ble_eq_true rfl) (by assumption) (Ci.to (m_canBe h hO) ?_)
          rintro x M1 ⟨e1, f, e2, e3⟩
          subst e1 e2
          refine wp_istore_n (ck_get kk_Mo_ask 9 rfl) (by decide) rfl ?_
          refine wp_iconst (v := (-1)) (by decide) (ck_get kk_Mo_ask 10 rfl) ?_
          refine wp_istore_n (ck_get kk_Mo_ask 11 rfl) (by decide) rfl ?_
          refine wp_ldcw kl_Mo_455 (ck_get kk_Mo_ask 12 rfl) ?_
          refine wp_istore (ck_get kk_Mo_ask 13 rfl) (by decide) rfl ?_
          refine wp_iconst (v := nI 0) (by decide) (ck_get kk_Mo_ask 14 rfl) ?_
          refine wp_istore (ck_get kk_Mo_ask 15 rfl) (by decide) rfl ?_
          skip
          refine wp_iload rfl (ck_get kk_Mo_ask 16 rfl) ?_
          refine wp_bipush (v := nI 25) (by decide) (ck_get kk_Mo_ask 17 rfl) ?_
          first | refine wp_icmp_geN (t := 69) (ck_get kk_Mo_ask 18 rfl) (by decide) (by omega) (by omega) (fun hc30 => ?_) (fun hc30 => ?_) | refine wp_icmp_ge (t := 69) (ck_get kk_Mo_ask 18 rfl) (by decide) (fun hc30 => ?_) (fun hc30 => ?_)
          · omega
          · refine wp_iload_n rfl (ck_get kk_Mo_ask 19 rfl) ?_
            first | refine wp_if_eqN (t := 69) (ck_get kk_Mo_ask 20 rfl) (by decide) (by omega) (fun hc34 => ?_) (fun hc34 => ?_) | refine wp_if_eq (t := 69) (ck_get kk_Mo_ask 20 rfl) (by decide) (fun hc34 => ?_) (fun hc34 => ?_)
            · refine wp_iload_n rfl (ck_get kk_Mo_ask 36 rfl) ?_
              refine wp_iconst (v := (-1)) (by decide) (ck_get kk_Mo_ask 37 rfl) ?_
              refine wp_icmp_eq (t := 78) (ck_get kk_Mo_ask 38 rfl) (by decide) (fun hc71 => ?_) (fun hc71 => ?_)
              · refine wp_iload_n rfl (ck_get kk_Mo_ask 41 rfl) ?_
                refine wp_goto (t := 84) (ck_get kk_Mo_ask 42 rfl) (by decide) ?_
                refine wp_ireturn (ck_get kk_Mo_ask 44 rfl) rfl rfl ⟨_, rfl, ?_⟩
                exact ⟨rfl, h.mf, CSame.mf⟩
              · exact absurd rfl hc71
            · omega
        · exact absurd hc6 (by decide)
    · refine ⟨if j = 0 then nI (akF (alW (sWo (zS z)) (cbN (zS z) 4)) 24).1 else nI (akF (alW (sWo (zS z)) (cbN (zS z) 4)) 24).2, z, hO.le (by omega), fun M h => ?_, fun M h => ?_⟩
      · have hCR := h
        have hC' := h.le (Nat.le_succ c)
        obtain ⟨pf, pg, hL, hSC, hTC, hIC, hDC, hPC, hNC, hBC, hZC⟩ := h
        obtain ⟨t0, ⟨r00, hSh⟩, ⟨r01, hTr⟩, ⟨r02, hTg⟩, ⟨r03, hWa⟩, ⟨r04, hWp⟩, ⟨r06, t921, r921a, r921b, hS0, hS1⟩, ⟨r07, t922⟩, ⟨r08, t923⟩, ⟨r010, hPa⟩, ⟨r011, hJu⟩, ⟨r012, hRe⟩, ⟨r013, hCu⟩, ⟨r014, hDe⟩, ⟨r018, t959⟩, hPf⟩ := id hL
        have t1 : mT M 1 = (6, 0) := hSh.1
        have r10 : mR M 1 0 = some 2 := hSh.2.1
        have hW2 : WoAt (mT M) (mR M) 2 := hSh.2.2.1
        have t2 : mT M 2 = (9, 0) := hW2.1
        have r20 : mR M 2 0 = some 3 := hW2.2.1
        have t3 : mT M 3 = (24, 4) := hW2.2.2.1
        have t31 : mT M 31 = (8, 0) := hTr.1
        have t924 : mT M 924 = (3, 0) := hPa.1
        have t934 : mT M 934 = (2, 0) := hJu.1
        have t938 : mT M 938 = (5, 0) := hRe.1
        have t947 : mT M 947 = (0, 0) := hCu.1
        have t952 : mT M 952 = (1, 0) := hDe.1
        have hlp : ∀ d c2 (x6 : Option Value), c2 + 1 + d = 25 → Wp g Y_Mc_ask 300 28 [some (.ref 0), some (.int (nI j)), some (.int (nI (cbN (zS z) 4))), some (.int (nI (akF (alW (sWo (zS z)) (cbN (zS z) 4)) c2).1)), some (.int (nI (akF (alW (sWo (zS z)) (cbN (zS z) 4)) c2).2)), some (.int (nI (c2 + 1))), x6] [] M (fun r M2 => ∃ x, r = some (.int x) ∧ x = (if j = 0 then nI (akF (alW (sWo (zS z)) (cbN (zS z) 4)) 24).1 else nI (akF (alW (sWo (zS z)) (cbN (zS z) 4)) 24).2) ∧ M2 = M) := by
          intro d
          induction d with
          | zero =>
            intro c2 x6 h1
            obtain rfl : c2 = 24 := by omega
            refine wp_iload rfl (ck_get kk_Mc_ask 18 rfl) ?_
            refine wp_bipush (v := nI 24) (by decide) (ck_get kk_Mc_ask 19 rfl) ?_
            first | refine wp_icmp_gtN (t := 70) (ck_get kk_Mc_ask 20 rfl) (by decide) (by omega) (by omega) (fun hc32 => ?_) (fun hc32 => ?_) | refine wp_icmp_gt (t := 70) (ck_get kk_Mc_ask 20 rfl) (by decide) (fun hc32 => ?_) (fun hc32 => ?_)
            · refine wp_iload_n rfl (ck_get kk_Mc_ask 37 rfl) ?_
              first | refine wp_if_neN (t := 78) (ck_get kk_Mc_ask 38 rfl) (by decide) (by omega) (fun hc71 => ?_) (fun hc71 => ?_) | refine wp_if_ne (t := 78) (ck_get kk_Mc_ask 38 rfl) (by decide) (fun hc71 => ?_) (fun hc71 => ?_)
              · refine wp_iload rfl (ck_get kk_Mc_ask 41 rfl) ?_
                refine wp_ireturn (ck_get kk_Mc_ask 42 rfl) rfl rfl ⟨_, rfl, ?_⟩
                exact ⟨by rw [if_neg (by omega)], rfl⟩
              · refine wp_iload_n rfl (ck_get kk_Mc_ask 39 rfl) ?_
                refine wp_goto (t := 80) (ck_get kk_Mc_ask 40 rfl) (by decide) ?_
                refine wp_ireturn (ck_get kk_Mc_ask 42 rfl) rfl rfl ⟨_, rfl, ?_⟩
                exact ⟨by rw [if_pos (by omega)], rfl⟩
            · omega
          | succ d ih =>
            intro c2 x6 h1
            have h4 := akF_le hal c2
            have h5 := hal (c2 + 1)
            have e0 : akF (alW (sWo (zS z)) (cbN (zS z) 4)) (c2 + 1) = if alW (sWo (zS z)) (cbN (zS z) 4) (c2 + 1) < (akF (alW (sWo (zS z)) (cbN (zS z) 4)) c2).2 then (c2 + 1, alW (sWo (zS z)) (cbN (zS z) 4) (c2 + 1)) else akF (alW (sWo (zS z)) (cbN (zS z) 4)) c2 := rfl
            have ih2 := fun x6 => ih (c2 + 1) x6 (by omega)
            rw [e0] at ih2
            refine wp_iload rfl (ck_get kk_Mc_ask 18 rfl) ?_
            refine wp_bipush (v := nI 24) (by decide) (ck_get kk_Mc_ask 19 rfl) ?_
            first | refine wp_icmp_gtN (t := 70) (ck_get kk_Mc_ask 20 rfl) (by decide) (by omega) (by omega) (fun hc32 => ?_) (fun hc32 => ?_) | refine wp_icmp_gt (t := 70) (ck_get kk_Mc_ask 20 rfl) (by decide) (fun hc32 => ?_) (fun hc32 => ?_)
            · omega
            · refine wp_aload_n rfl (ck_get kk_Mc_ask 21 rfl) ?_
              refine wp_getR (ck_get kk_Mc_ask 22 rfl) fl_Mc_12 (by assumption) (by assumption) ?_
              refine wp_getR (ck_get kk_Mc_ask 23 rfl) fl_Mc_107 (by assumption) (by assumption) ?_
              refine wp_iload_n rfl (ck_get kk_Mc_ask 24 rfl) ?_
              refine wp_iload rfl (ck_get kk_Mc_ask 25 rfl) ?_
              refine wp_cV2i (ck_get kk_Mc_ask 26 rfl) ml_Mc_358 (by omega) (Nat.le_of_ble_eq_true rfl) (by assumption) (Ci.to (c_wmA (c := c2 + 1) (by exact hW2) (by exact hSC.1) (by omega) (by omega)) ?_)
              rintro x M1 ⟨w1, w2⟩
              replace w1 : x = nI (alW (sWo (zS z)) (cbN (zS z) 4) (c2 + 1)) := w1
              obtain rfl := w2.symm
              subst w1
              refine wp_istore (ck_get kk_Mc_ask 27 rfl) (by decide) rfl ?_
              refine wp_iload rfl (ck_get kk_Mc_ask 28 rfl) ?_
              refine wp_iload rfl (ck_get kk_Mc_ask 29 rfl) ?_
              first | refine wp_icmp_geN (t := 64) (ck_get kk_Mc_ask 30 rfl) (by decide) (by omega) (by omega) (fun hc54 => ?_) (fun hc54 => ?_) | refine wp_icmp_ge (t := 64) (ck_get kk_Mc_ask 30 rfl) (by decide) (fun hc54 => ?_) (fun hc54 => ?_)
              · first | refine wp_iincN (ck_get kk_Mc_ask 35 rfl) rfl (by decide) rfl ?_ | refine wp_iinc (ck_get kk_Mc_ask 35 rfl) rfl (by decide) rfl ?_
                refine wp_goto (t := 28) (ck_get kk_Mc_ask 36 rfl) (by decide) ?_
                rw [if_neg (by omega)] at ih2
                exact ih2 _
              · refine wp_iload rfl (ck_get kk_Mc_ask 31 rfl) ?_
                refine wp_istore (ck_get kk_Mc_ask 32 rfl) (by decide) rfl ?_
                refine wp_iload rfl (ck_get kk_Mc_ask 33 rfl) ?_
                refine wp_istore_n (ck_get kk_Mc_ask 34 rfl) (by decide) rfl ?_
                first | refine wp_iincN (ck_get kk_Mc_ask 35 rfl) rfl (by decide) rfl ?_ | refine wp_iinc (ck_get kk_Mc_ask 35 rfl) rfl (by decide) rfl ?_
                refine wp_goto (t := 28) (ck_get kk_Mc_ask 36 rfl) (by decide) ?_
                rw [if_pos (by omega)] at ih2
                exact ih2 _
        refine cw_entry 5 pf_Mc_ask rfl ?_
        refine wp_aload_n rfl (ck_get kk_Mc_ask 0 rfl) ?_
        refine wp_cV0i (ck_get kk_Mc_ask 1 rfl) ml_Mc_355 (by omega) (Nat.le_of_ble_eq_true rfl) (by assumption) (Ci.to (c_canBe hCR hO) ?_)
        rintro _ M1 ⟨rfl, eqm1⟩
        obtain rfl := eqm1.symm
        refine wp_istore_n (ck_get kk_Mc_ask 2 rfl) (by decide) rfl ?_
        refine wp_iload_n rfl (ck_get kk_Mc_ask 3 rfl) ?_
        first | refine wp_if_eqN (t := 18) (ck_get kk_Mc_ask 4 rfl) (by decide) (by omega) (fun hc6 => ?_) (fun hc6 => ?_) | refine wp_if_eq (t := 18) (ck_get kk_Mc_ask 4 rfl) (by decide) (fun hc6 => ?_) (fun hc6 => ?_)
        · omega
        · refine wp_iload_n rfl (ck_get kk_Mc_ask 5 rfl) ?_
          first | refine wp_if_ltN (t := 18) (ck_get kk_Mc_ask 6 rfl) (by decide) (by omega) (fun hc10 => ?_) (fun hc10 => ?_) | refine wp_if_lt (t := 18) (ck_get kk_Mc_ask 6 rfl) (by decide) (fun hc10 => ?_) (fun hc10 => ?_)
          · exact hc10.elim
          · refine wp_iload_n rfl (ck_get kk_Mc_ask 7 rfl) ?_
            refine wp_iconst (v := nI 1) (by decide) (ck_get kk_Mc_ask 8 rfl) ?_
            first | refine wp_icmp_leN (t := 20) (ck_get kk_Mc_ask 9 rfl) (by decide) (by omega) (by omega) (fun hc15 => ?_) (fun hc15 => ?_) | refine wp_icmp_le (t := 20) (ck_get kk_Mc_ask 9 rfl) (by decide) (fun hc15 => ?_) (fun hc15 => ?_)
            · refine wp_iconst (v := nI 0) (by decide) (ck_get kk_Mc_ask 12 rfl) ?_
              refine wp_istore_n (ck_get kk_Mc_ask 13 rfl) (by decide) rfl ?_
              refine wp_iconst (v := nI 5) (by decide) (ck_get kk_Mc_ask 14 rfl) ?_
              refine wp_istore (ck_get kk_Mc_ask 15 rfl) (by decide) rfl ?_
              refine wp_iconst (v := nI 0) (by decide) (ck_get kk_Mc_ask 16 rfl) ?_
              refine wp_istore (ck_get kk_Mc_ask 17 rfl) (by decide) rfl ?_
              have h5 := hal 0
              refine wp_iload rfl (ck_get kk_Mc_ask 18 rfl) ?_
              refine wp_bipush (v := nI 24) (by decide) (ck_get kk_Mc_ask 19 rfl) ?_
              first | refine wp_icmp_gtN (t := 70) (ck_get kk_Mc_ask 20 rfl) (by decide) (by omega) (by omega) (fun hc32 => ?_) (fun hc32 => ?_) | refine wp_icmp_gt (t := 70) (ck_get kk_Mc_ask 20 rfl) (by decide) (fun hc32 => ?_) (fun hc32 => ?_)
              · omega
              · refine wp_aload_n rfl (ck_get kk_Mc_ask 21 rfl) ?_
                refine wp_getR (ck_get kk_Mc_ask 22 rfl) fl_Mc_12 (by assumption) (by assumption) ?_
                refine wp_getR (ck_get kk_Mc_ask 23 rfl) fl_Mc_107 (by assumption) (by assumption) ?_
                refine wp_iload_n rfl (ck_get kk_Mc_ask 24 rfl) ?_
                refine wp_iload rfl (ck_get kk_Mc_ask 25 rfl) ?_
                refine wp_cV2i (ck_get kk_Mc_ask 26 rfl) ml_Mc_358 (by omega) (Nat.le_of_ble_eq_true rfl) (by assumption) (Ci.to (c_wmA (c := 0) (by exact hW2) (by exact hSC.1) (by omega) (by omega)) ?_)
                rintro x M1 ⟨w1, w2⟩
                replace w1 : x = nI (alW (sWo (zS z)) (cbN (zS z) 4) 0) := w1
                obtain rfl := w2.symm
                subst w1
                refine wp_istore (ck_get kk_Mc_ask 27 rfl) (by decide) rfl ?_
                refine wp_iload rfl (ck_get kk_Mc_ask 28 rfl) ?_
                refine wp_iload rfl (ck_get kk_Mc_ask 29 rfl) ?_
                first | refine wp_icmp_geN (t := 64) (ck_get kk_Mc_ask 30 rfl) (by decide) (by omega) (by omega) (fun hc54 => ?_) (fun hc54 => ?_) | refine wp_icmp_ge (t := 64) (ck_get kk_Mc_ask 30 rfl) (by decide) (fun hc54 => ?_) (fun hc54 => ?_)
                · omega
                · refine wp_iload rfl (ck_get kk_Mc_ask 31 rfl) ?_
                  refine wp_istore (ck_get kk_Mc_ask 32 rfl) (by decide) rfl ?_
                  refine wp_iload rfl (ck_get kk_Mc_ask 33 rfl) ?_
                  refine wp_istore_n (ck_get kk_Mc_ask 34 rfl) (by decide) rfl ?_
                  first | refine wp_iincN (ck_get kk_Mc_ask 35 rfl) rfl (by decide) rfl ?_ | refine wp_iinc (ck_get kk_Mc_ask 35 rfl) rfl (by decide) rfl ?_
                  refine wp_goto (t := 28) (ck_get kk_Mc_ask 36 rfl) (by decide) ?_
                  refine (hlp 24 0 _ (by omega)).mono ?_
                  rintro r M2 ⟨x, rfl, rfl, rfl⟩
                  exact ⟨_, rfl, rfl, hC', MSame.refl _⟩
            · omega
      · skip
        obtain ⟨hM, hSM, hUM, hIM, hDM, hPM, hNM, hBM⟩ := id h
        have to0 := hM.1
        have ham : ∀ c2, amA (eqW (sWo (zS z)) c2) (cbN (zS z) 4) 4 0 0 = alW (sWo (zS z)) (cbN (zS z) 4) c2 := fun c2 => (al_eq (m := fun i => msW (sWo (zS z)) i c2) (by omega)).symm
        have hlp : ∀ f, MsL f (sWo (zS z)) 4 → ∀ d c2 (x6 : Option Value), c2 + 1 + d = 25 → Wp g Y_Mo_ask 300 26 [some (.ref 1020), some (.int (nI j)), some (.int (nI (cbN (zS z) 4))), some (.int (nI (akF (alW (sWo (zS z)) (cbN (zS z) 4)) c2).1)), some (.int (nI (akF (alW (sWo (zS z)) (cbN (zS z) 4)) c2).2)), some (.int (nI (c2 + 1))), x6] [] (mfM M f) (fun r M2 => ∃ x, r = some (.int x) ∧ x = (if j = 0 then nI (akF (alW (sWo (zS z)) (cbN (zS z) 4)) 24).1 else nI (akF (alW (sWo (zS z)) (cbN (zS z) 4)) 24).2) ∧ M2 = mfM M f) := by
          intro f hf d
          induction d with
          | zero =>
            intro c2 x6 h1
            obtain rfl : c2 = 24 := by omega
            have h4 := akF_le hal 24
            refine wp_iload rfl (ck_get kk_Mo_ask 16 rfl) ?_
            refine wp_bipush (v := nI 25) (by decide) (ck_get kk_Mo_ask 17 rfl) ?_
            first | refine wp_icmp_geN (t := 69) (ck_get kk_Mo_ask 18 rfl) (by decide) (by omega) (by omega) (fun hc30 => ?_) (fun hc30 => ?_) | refine wp_icmp_ge (t := 69) (ck_get kk_Mo_ask 18 rfl) (by decide) (fun hc30 => ?_) (fun hc30 => ?_)
            · refine wp_iload_n rfl (ck_get kk_Mo_ask 36 rfl) ?_
              refine wp_iconst (v := (-1)) (by decide) (ck_get kk_Mo_ask 37 rfl) ?_
              refine wp_icmp_eq (t := 78) (ck_get kk_Mo_ask 38 rfl) (by decide) (fun hc71 => ?_) (fun hc71 => ?_)
              · exact absurd hc71 (nI_ne1 (by omega))
              · refine wp_iload_n rfl (ck_get kk_Mo_ask 39 rfl) ?_
                first | refine wp_if_neN (t := 82) (ck_get kk_Mo_ask 40 rfl) (by decide) (by omega) (fun hc75 => ?_) (fun hc75 => ?_) | refine wp_if_ne (t := 82) (ck_get kk_Mo_ask 40 rfl) (by decide) (fun hc75 => ?_) (fun hc75 => ?_)
                · refine wp_iload rfl (ck_get kk_Mo_ask 43 rfl) ?_
                  refine wp_ireturn (ck_get kk_Mo_ask 44 rfl) rfl rfl ⟨_, rfl, ?_⟩
                  exact ⟨by rw [if_neg (by omega)], rfl⟩
                · refine wp_iload_n rfl (ck_get kk_Mo_ask 41 rfl) ?_
                  refine wp_goto (t := 84) (ck_get kk_Mo_ask 42 rfl) (by decide) ?_
                  refine wp_ireturn (ck_get kk_Mo_ask 44 rfl) rfl rfl ⟨_, rfl, ?_⟩
                  exact ⟨by rw [if_pos (by omega)], rfl⟩
            · omega
          | succ d ih =>
            intro c2 x6 h1
            have h4 := akF_le hal c2
            have h5 := hal (c2 + 1)
            have e0 : akF (alW (sWo (zS z)) (cbN (zS z) 4)) (c2 + 1) = if alW (sWo (zS z)) (cbN (zS z) 4) (c2 + 1) < (akF (alW (sWo (zS z)) (cbN (zS z) 4)) c2).2 then (c2 + 1, alW (sWo (zS z)) (cbN (zS z) 4) (c2 + 1)) else akF (alW (sWo (zS z)) (cbN (zS z) 4)) c2 := rfl
            have ih2 := fun x6 => ih (c2 + 1) x6 (by omega)
            rw [e0] at ih2
            refine wp_iload rfl (ck_get kk_Mo_ask 16 rfl) ?_
            refine wp_bipush (v := nI 25) (by decide) (ck_get kk_Mo_ask 17 rfl) ?_
            first | refine wp_icmp_geN (t := 69) (ck_get kk_Mo_ask 18 rfl) (by decide) (by omega) (by omega) (fun hc30 => ?_) (fun hc30 => ?_) | refine wp_icmp_ge (t := 69) (ck_get kk_Mo_ask 18 rfl) (by decide) (fun hc30 => ?_) (fun hc30 => ?_)
            · omega
            · refine wp_iload_n rfl (ck_get kk_Mo_ask 19 rfl) ?_
              first | refine wp_if_eqN (t := 69) (ck_get kk_Mo_ask 20 rfl) (by decide) (by omega) (fun hc34 => ?_) (fun hc34 => ?_) | refine wp_if_eq (t := 69) (ck_get kk_Mo_ask 20 rfl) (by decide) (fun hc34 => ?_) (fun hc34 => ?_)
              · omega
              · refine wp_aload_n rfl (ck_get kk_Mo_ask 21 rfl) ?_
                refine wp_iload_n rfl (ck_get kk_Mo_ask 22 rfl) ?_
                refine wp_iload rfl (ck_get kk_Mo_ask 23 rfl) ?_
                refine wp_cV2i (ck_get kk_Mo_ask 24 rfl) ml_Mo_501 (by omega) (Nat.le_of_ble_eq_true rfl) (by assumption) (Ci.to (m_mA (c := c2 + 1) hM hf (by omega) (by omega)) ?_)
                rintro x M1 ⟨w1, w2⟩
                rw [ham] at w1
                subst w1 w2
                refine wp_istore (ck_get kk_Mo_ask 25 rfl) (by decide) rfl ?_
                refine wp_iload rfl (ck_get kk_Mo_ask 26 rfl) ?_
                refine wp_iload rfl (ck_get kk_Mo_ask 27 rfl) ?_
                first | refine wp_icmp_ltN (t := 56) (ck_get kk_Mo_ask 28 rfl) (by decide) (by omega) (by omega) (fun hc50 => ?_) (fun hc50 => ?_) | refine wp_icmp_lt (t := 56) (ck_get kk_Mo_ask 28 rfl) (by decide) (fun hc50 => ?_) (fun hc50 => ?_)
                · refine wp_iload rfl (ck_get kk_Mo_ask 30 rfl) ?_
                  refine wp_istore (ck_get kk_Mo_ask 31 rfl) (by decide) rfl ?_
                  refine wp_iload rfl (ck_get kk_Mo_ask 32 rfl) ?_
                  refine wp_istore_n (ck_get kk_Mo_ask 33 rfl) (by decide) rfl ?_
                  first | refine wp_iincN (ck_get kk_Mo_ask 34 rfl) rfl (by decide) rfl ?_ | refine wp_iinc (ck_get kk_Mo_ask 34 rfl) rfl (by decide) rfl ?_
                  refine wp_goto (t := 26) (ck_get kk_Mo_ask 35 rfl) (by decide) ?_
                  rw [if_pos (by omega)] at ih2
                  exact ih2 _
                · refine wp_goto (t := 63) (ck_get kk_Mo_ask 29 rfl) (by decide) ?_
                  first | refine wp_iincN (ck_get kk_Mo_ask 34 rfl) rfl (by decide) rfl ?_ | refine wp_iinc (ck_get kk_Mo_ask 34 rfl) rfl (by decide) rfl ?_
                  refine wp_goto (t := 26) (ck_get kk_Mo_ask 35 rfl) (by decide) ?_
                  rw [if_neg (by omega)] at ih2
                  exact ih2 _
        refine cw_entry 5 pf_Mo_ask rfl ?_
        refine wp_iload_n rfl (ck_get kk_Mo_ask 0 rfl) ?_
        refine wp_iconst (v := nI 0) (by decide) (ck_get kk_Mo_ask 1 rfl) ?_
        refine wp_iconst (v := nI 1) (by decide) (ck_get kk_Mo_ask 2 rfl) ?_
        refine wp_cS3i (ck_get kk_Mo_ask 3 rfl) ml_Mo_18 (by omega) (Nat.le_of_ble_eq_true rfl) (Ci.to (m_lies (by omega)) ?_)
        rintro _ M1 ⟨rfl, eqm1⟩
        obtain rfl := eqm1.symm
        rw [hin]
        first | refine wp_if_neN (t := 11) (ck_get kk_Mo_ask 4 rfl) (by decide) (by omega) (fun hc6 => ?_) (fun hc6 => ?_) | refine wp_if_ne (t := 11) (ck_get kk_Mo_ask 4 rfl) (by decide) (fun hc6 => ?_) (fun hc6 => ?_)
        · refine wp_aload_n rfl (ck_get kk_Mo_ask 7 rfl) ?_
          refine wp_cV0i (ck_get kk_Mo_ask 8 rfl) ml_Mo_498 (by omega) (Nat.le_of_ble_eq_true rfl) (by assumption) (Ci.to (m_canBe h hO) ?_)
          rintro x M1 ⟨e1, f, e2, e3⟩
          subst e1 e2
          refine wp_istore_n (ck_get kk_Mo_ask 9 rfl) (by decide) rfl ?_
          refine wp_iconst (v := (-1)) (by decide) (ck_get kk_Mo_ask 10 rfl) ?_
          refine wp_istore_n (ck_get kk_Mo_ask 11 rfl) (by decide) rfl ?_
          refine wp_ldcw kl_Mo_455 (ck_get kk_Mo_ask 12 rfl) ?_
          rw [i9m]
          refine wp_istore (ck_get kk_Mo_ask 13 rfl) (by decide) rfl ?_
          refine wp_iconst (v := nI 0) (by decide) (ck_get kk_Mo_ask 14 rfl) ?_
          refine wp_istore (ck_get kk_Mo_ask 15 rfl) (by decide) rfl ?_
          have h5 := hal 0
          refine wp_iload rfl (ck_get kk_Mo_ask 16 rfl) ?_
          refine wp_bipush (v := nI 25) (by decide) (ck_get kk_Mo_ask 17 rfl) ?_
          first | refine wp_icmp_geN (t := 69) (ck_get kk_Mo_ask 18 rfl) (by decide) (by omega) (by omega) (fun hc30 => ?_) (fun hc30 => ?_) | refine wp_icmp_ge (t := 69) (ck_get kk_Mo_ask 18 rfl) (by decide) (fun hc30 => ?_) (fun hc30 => ?_)
          · omega
          · refine wp_iload_n rfl (ck_get kk_Mo_ask 19 rfl) ?_
            first | refine wp_if_eqN (t := 69) (ck_get kk_Mo_ask 20 rfl) (by decide) (by omega) (fun hc34 => ?_) (fun hc34 => ?_) | refine wp_if_eq (t := 69) (ck_get kk_Mo_ask 20 rfl) (by decide) (fun hc34 => ?_) (fun hc34 => ?_)
            · omega
            · refine wp_aload_n rfl (ck_get kk_Mo_ask 21 rfl) ?_
              refine wp_iload_n rfl (ck_get kk_Mo_ask 22 rfl) ?_
              refine wp_iload rfl (ck_get kk_Mo_ask 23 rfl) ?_
              refine wp_cV2i (ck_get kk_Mo_ask 24 rfl) ml_Mo_501 (by omega) (Nat.le_of_ble_eq_true rfl) (by assumption) (Ci.to (m_mA (c := 0) hM e3 (by omega) (by omega)) ?_)
              rintro x M1 ⟨w1, w2⟩
              rw [ham] at w1
              subst w1 w2
              refine wp_istore (ck_get kk_Mo_ask 25 rfl) (by decide) rfl ?_
              refine wp_iload rfl (ck_get kk_Mo_ask 26 rfl) ?_
              refine wp_iload rfl (ck_get kk_Mo_ask 27 rfl) ?_
              first | refine wp_icmp_ltN (t := 56) (ck_get kk_Mo_ask 28 rfl) (by decide) (by omega) (by omega) (fun hc50 => ?_) (fun hc50 => ?_) | refine wp_icmp_lt (t := 56) (ck_get kk_Mo_ask 28 rfl) (by decide) (fun hc50 => ?_) (fun hc50 => ?_)
              · refine wp_iload rfl (ck_get kk_Mo_ask 30 rfl) ?_
                refine wp_istore (ck_get kk_Mo_ask 31 rfl) (by decide) rfl ?_
                refine wp_iload rfl (ck_get kk_Mo_ask 32 rfl) ?_
                refine wp_istore_n (ck_get kk_Mo_ask 33 rfl) (by decide) rfl ?_
                first | refine wp_iincN (ck_get kk_Mo_ask 34 rfl) rfl (by decide) rfl ?_ | refine wp_iinc (ck_get kk_Mo_ask 34 rfl) rfl (by decide) rfl ?_
                refine wp_goto (t := 26) (ck_get kk_Mo_ask 35 rfl) (by decide) ?_
                refine (hlp f e3 24 0 _ (by omega)).mono ?_
                rintro r M2 ⟨x, rfl, rfl, rfl⟩
                exact ⟨_, rfl, rfl, h.mf, CSame.mf⟩
              · omega
        · exact absurd hc6 (by decide)
  · have hin' : inB a 2 = false := by simpa using hin
    have hno : ∀ (q1 : ¬ a < nI 0) (q2 : ¬ nI 1 < a), False := fun q1 q2 => by
      rcases i32c a 2 (by omega) with ⟨k, hk, rfl⟩ | e
      · exact hin (inB_nI hk (by omega))
      · exact i32o e 0 1 rfl (by omega) (by omega) q1 q2
    refine ⟨-1, z, hO.le (by omega), fun M h => ?_, fun M h => ?_⟩
    · have hCR := h
      have hC' := h.le (Nat.le_succ c)
      obtain ⟨pf, pg, hL, hSC, hTC, hIC, hDC, hPC, hNC, hBC, hZC⟩ := h
      obtain ⟨t0, ⟨r00, hSh⟩, ⟨r01, hTr⟩, ⟨r02, hTg⟩, ⟨r03, hWa⟩, ⟨r04, hWp⟩, ⟨r06, t921, r921a, r921b, hS0, hS1⟩, ⟨r07, t922⟩, ⟨r08, t923⟩, ⟨r010, hPa⟩, ⟨r011, hJu⟩, ⟨r012, hRe⟩, ⟨r013, hCu⟩, ⟨r014, hDe⟩, ⟨r018, t959⟩, hPf⟩ := id hL
      have t1 : mT M 1 = (6, 0) := hSh.1
      have r10 : mR M 1 0 = some 2 := hSh.2.1
      have hW2 : WoAt (mT M) (mR M) 2 := hSh.2.2.1
      have t2 : mT M 2 = (9, 0) := hW2.1
      have r20 : mR M 2 0 = some 3 := hW2.2.1
      have t3 : mT M 3 = (24, 4) := hW2.2.2.1
      have t31 : mT M 31 = (8, 0) := hTr.1
      have t924 : mT M 924 = (3, 0) := hPa.1
      have t934 : mT M 934 = (2, 0) := hJu.1
      have t938 : mT M 938 = (5, 0) := hRe.1
      have t947 : mT M 947 = (0, 0) := hCu.1
      have t952 : mT M 952 = (1, 0) := hDe.1
      refine cw_entry 5 pf_Mc_ask rfl ?_
      refine wp_aload_n rfl (ck_get kk_Mc_ask 0 rfl) ?_
      refine wp_cV0i (ck_get kk_Mc_ask 1 rfl) ml_Mc_355 (by omega) (Nat.le_of_ble_eq_true rfl) (by assumption) (Ci.to (c_canBe hCR hO) ?_)
      rintro _ M1 ⟨rfl, eqm1⟩
      obtain rfl := eqm1.symm
      refine wp_istore_n (ck_get kk_Mc_ask 2 rfl) (by decide) rfl ?_
      refine wp_iload_n rfl (ck_get kk_Mc_ask 3 rfl) ?_
      refine wp_if_eq (t := 18) (ck_get kk_Mc_ask 4 rfl) (by decide) (fun hc6 => ?_) (fun hc6 => ?_)
      · refine wp_iconst (v := (-1)) (by decide) (ck_get kk_Mc_ask 10 rfl) ?_
        refine wp_ireturn (ck_get kk_Mc_ask 11 rfl) rfl rfl ⟨_, rfl, ?_⟩
        exact ⟨rfl, hC', MSame.refl _⟩
      · refine wp_iload_n rfl (ck_get kk_Mc_ask 5 rfl) ?_
        refine wp_if_lt (t := 18) (ck_get kk_Mc_ask 6 rfl) (by decide) (fun hc10 => ?_) (fun hc10 => ?_)
        · refine wp_iconst (v := (-1)) (by decide) (ck_get kk_Mc_ask 10 rfl) ?_
          refine wp_ireturn (ck_get kk_Mc_ask 11 rfl) rfl rfl ⟨_, rfl, ?_⟩
          exact ⟨rfl, hC', MSame.refl _⟩
        · refine wp_iload_n rfl (ck_get kk_Mc_ask 7 rfl) ?_
          refine wp_iconst (v := nI 1) (by decide) (ck_get kk_Mc_ask 8 rfl) ?_
          refine wp_icmp_le (t := 20) (ck_get kk_Mc_ask 9 rfl) (by decide) (fun hc15 => ?_) (fun hc15 => ?_)
          · exact (hno hc10 (fun h => by have a := Int32.lt_iff_toInt_lt.mp h; have b := Int32.le_iff_toInt_le.mp hc15; omega)).elim
          · refine wp_iconst (v := (-1)) (by decide) (ck_get kk_Mc_ask 10 rfl) ?_
            refine wp_ireturn (ck_get kk_Mc_ask 11 rfl) rfl rfl ⟨_, rfl, ?_⟩
            exact ⟨rfl, hC', MSame.refl _⟩
    · skip
      obtain ⟨hM, hSM, hUM, hIM, hDM, hPM, hNM, hBM⟩ := id h
      have to0 := hM.1
      refine cw_entry 5 pf_Mo_ask rfl ?_
      refine wp_iload_n rfl (ck_get kk_Mo_ask 0 rfl) ?_
      refine wp_iconst (v := nI 0) (by decide) (ck_get kk_Mo_ask 1 rfl) ?_
      refine wp_iconst (v := nI 1) (by decide) (ck_get kk_Mo_ask 2 rfl) ?_
      refine wp_cS3i (ck_get kk_Mo_ask 3 rfl) ml_Mo_18 (by omega) (Nat.le_of_ble_eq_true rfl) (Ci.to (m_lies (by omega)) ?_)
      rintro _ M1 ⟨rfl, eqm1⟩
      obtain rfl := eqm1.symm
      rw [hin']
      first | refine wp_if_neN (t := 11) (ck_get kk_Mo_ask 4 rfl) (by decide) (by omega) (fun hc6 => ?_) (fun hc6 => ?_) | refine wp_if_ne (t := 11) (ck_get kk_Mo_ask 4 rfl) (by decide) (fun hc6 => ?_) (fun hc6 => ?_)
      · exact absurd (by decide) hc6
      · refine wp_iconst (v := (-1)) (by decide) (ck_get kk_Mo_ask 5 rfl) ?_
        refine wp_ireturn (ck_get kk_Mo_ask 6 rfl) rfl rfl ⟨_, rfl, ?_⟩
        exact ⟨rfl, h, CSame.refl _⟩
end ASC
