/-! ===== share ===== -/
section SHX
variable {g : Gl} {M : Mem}
abbrev shF (z : ST) : Nat → Nat → Int := fun t => mz (sWo (zS z)) t
theorem b_share {a b : Int32} : Both g Y_Mc_share Y_Mo_share [.int a, .int b] := by
  intro c z hc hO
  have hB : tot (sWo (zS z)) ≤ 400000000 := by
    have h1 : tot (sWo (zS z)) ≤ bC c := hO.1.2.1
    have h2 : bC c < 400000000 := by unfold bC; omega
    omega
  have hF : ∀ t c, t < 4 → c < 25 → 0 ≤ shF z t c ∧ shF z t c ≤ 400000000 := fun t c ht hc => mz_b ht hB c hc
  by_cases hin : inB a 49 = true ∧ inB b 4 = true
  · obtain ⟨h1, h2⟩ := hin
    obtain ⟨k, hk, rfl⟩ := inB_t h1 (by omega)
    obtain ⟨v, hv, rfl⟩ := inB_t h2 (by omega)
    refine ⟨nI (shD (flT (shF z)) (wdT (shF z)) k v), z, hO.le (by omega), fun M h => ?_, fun M h => ?_⟩
    · have hCR := h
      have hC' := h.le (Nat.le_succ c)
      obtain ⟨pf, pg, hL, hSC, hTC, hIC, hDC, hPC, hNC, hBC, hZC⟩ := h
      obtain ⟨t0, ⟨r00, hSh⟩, ⟨r01, hTr⟩, ⟨r02, hTg⟩, ⟨r03, hWa⟩, ⟨r04, hWp⟩, ⟨r06, t921, r921a, r921b, hS0, hS1⟩, ⟨r07, t922⟩, ⟨r08, t923⟩, ⟨r010, hPa⟩, ⟨r011, hJu⟩, ⟨r012, hRe⟩, ⟨r013, hCu⟩, ⟨r014, hDe⟩, ⟨r018, t959⟩, hPf⟩ := id hL
      have t1 : mT M 1 = (6, 0) := hSh.1
      have r10 : mR M 1 0 = some 2 := hSh.2.1
      have hW2 : WoAt (mT M) (mR M) 2 := hSh.2.2.1
      have t2 : mT M 2 = (9, 0) := hW2.1
      have r20 : mR M 2 0 = some 3 := hW2.2.1
      have t3 : mT M 3 = (24, 4) := hW2.2.2.1
      have t31 : mT M 31 = (8, 0) := hTr.1
      have t924 : mT M 924 = (3, 0) := hPa.1
      have t934 : mT M 934 = (2, 0) := hJu.1
      have t938 : mT M 938 = (5, 0) := hRe.1
      have t947 : mT M 947 = (0, 0) := hCu.1
      have t952 : mT M 952 = (1, 0) := hDe.1
      have rd : mR M 952 0 = some 953 := hDe.2.1
      have td : mT M 953 = (20, 4) := hDe.2.2.1
      have hlp : ∀ e t (j fl wd : Nat → Int64) (b r : Nat → Int32), t + e = 4 → FlL (shF z) fl wd (fun u _ => u < t) → Wp g Y_Mc_share 300 21 [some (.ref 0), some (.int (nI k)), some (.int (nI v)), some (.int (nI t))] [] (shM M j fl wd b r (mI M 953)) (fun r M2 => ∃ x, r = some (.int x) ∧ x = nI (shD (flT (shF z)) (wdT (shF z)) k v) ∧ CR (c + 1) z M2 ∧ MSame M M2) := by
        intro e
        induction e with
        | zero =>
          intro t j fl wd b r h3 hL
          refine wp_iload_n rfl (ck_get kk_Mc_share 12 rfl) ?_
          refine wp_iconst (v := nI 4) (by decide) (ck_get kk_Mc_share 13 rfl) ?_
          first | refine wp_icmp_geN (t := 63) (ck_get kk_Mc_share 14 rfl) (by decide) (by omega) (by omega) (fun hc23 => ?_) (fun hc23 => ?_) | refine wp_icmp_ge (t := 63) (ck_get kk_Mc_share 14 rfl) (by decide) (fun hc23 => ?_) (fun hc23 => ?_)
          · refine wp_aload_n rfl (ck_get kk_Mc_share 32 rfl) ?_
            refine wp_getR (ck_get kk_Mc_share 33 rfl) fl_Mc_87 (by assumption) (by assumption) ?_
            refine wp_iload_n rfl (ck_get kk_Mc_share 34 rfl) ?_
            refine wp_cV1v (ck_get kk_Mc_share 35 rfl) ml_Mc_321 (by omega) (Nat.le_of_ble_eq_true rfl) (by assumption) (Cv.to (c_dealFalls (F := shF z) (by exact hDe) hF (fun u c2 hu hc hp => hL u c2 hu hc (by omega)) (by omega)) ?_)
            rintro M1 ⟨dr, w1, w2⟩
            subst w1
            refine wp_aload_n rfl (ck_get kk_Mc_share 36 rfl) ?_
            refine wp_getR (ck_get kk_Mc_share 37 rfl) fl_Mc_87 (by assumption) (by assumption) ?_
            refine wp_getR (ck_get kk_Mc_share 38 rfl) fl_Mc_324 (by assumption) (by assumption) ?_
            refine wp_iload_n rfl (ck_get kk_Mc_share 39 rfl) ?_
            refine wp_ialdv (v := nI (shD (flT (shF z)) (wdT (shF z)) k v)) (ck_get kk_Mc_share 40 rfl) (by assumption) (ixk_nI (k := v) (by omega) (by omega)) ((by rw [sh_d]; exact w2 v hv)) ?_
            refine wp_ireturn (ck_get kk_Mc_share 41 rfl) rfl rfl ⟨_, rfl, ?_⟩
            exact ⟨rfl, hCR.shr, MSame.shr⟩
          · omega
        | succ e ih =>
          intro t j fl wd b r h3 hL
          have ht : t < 4 := by omega
          have rTe : mR M 3 t = some (4 + 6 * t) := (hW2.2.2.2 t ht).1
          have hTA : TeAt (mT M) (mR M) (4 + 6 * t) := (hW2.2.2.2 t ht).2
          have hTH : TeHas (mI M) (mJ M) (4 + 6 * t) ((sWo (zS z)).2 t) := hSC.1.2 t ht
          have tTe := hTA.1
          have hH : WoHas (mI (shM M j fl wd b r (mI M 953))) (mJ (shM M j fl wd b r (mI M 953))) 2 (sWo (zS z)) := hSC.1.kept (fun x q1 q2 => ⟨sh_x (M := M) (by omega) (by omega) (by omega), sh_y (M := M) (by omega) (by omega) (by omega)⟩)
          refine wp_iload_n rfl (ck_get kk_Mc_share 12 rfl) ?_
          refine wp_iconst (v := nI 4) (by decide) (ck_get kk_Mc_share 13 rfl) ?_
          first | refine wp_icmp_geN (t := 63) (ck_get kk_Mc_share 14 rfl) (by decide) (by omega) (by omega) (fun hc23 => ?_) (fun hc23 => ?_) | refine wp_icmp_ge (t := 63) (ck_get kk_Mc_share 14 rfl) (by decide) (fun hc23 => ?_) (fun hc23 => ?_)
          · omega
          · refine wp_aload_n rfl (ck_get kk_Mc_share 15 rfl) ?_
            refine wp_getR (ck_get kk_Mc_share 16 rfl) fl_Mc_80 (by assumption) (by assumption) ?_
            refine wp_aload_n rfl (ck_get kk_Mc_share 17 rfl) ?_
            refine wp_getR (ck_get kk_Mc_share 18 rfl) fl_Mc_12 (by assumption) (by assumption) ?_
            refine wp_getR (ck_get kk_Mc_share 19 rfl) fl_Mc_107 (by assumption) (by assumption) ?_
            refine wp_getR (ck_get kk_Mc_share 20 rfl) fl_Mc_110 (by assumption) (by assumption) ?_
            refine wp_iload_n rfl (ck_get kk_Mc_share 21 rfl) ?_
            refine wp_aald (ck_get kk_Mc_share 22 rfl) (by assumption) (by first | assumption | exact ixk_nI (by omega) (by omega)) (by assumption) ?_
            refine wp_cV1v (ck_get kk_Mc_share 23 rfl) ml_Mc_283 (by omega) (Nat.le_of_ble_eq_true rfl) (by assumption) (Cv.to (c_load (t := t) (w := sWo (zS z)) (by exact hW2) hH (by exact hCu) ht hB) ?_)
            rintro M1 ⟨j2, b2, r2, w1, w2⟩
            rw [sh_cu] at w1
            subst w1
            refine wp_aload_n rfl (ck_get kk_Mc_share 24 rfl) ?_
            refine wp_getR (ck_get kk_Mc_share 25 rfl) fl_Mc_87 (by assumption) (by assumption) ?_
            refine wp_iload_n rfl (ck_get kk_Mc_share 26 rfl) ?_
            refine wp_aload_n rfl (ck_get kk_Mc_share 27 rfl) ?_
            refine wp_getR (ck_get kk_Mc_share 28 rfl) fl_Mc_80 (by assumption) (by assumption) ?_
            refine wp_cV2v (ck_get kk_Mc_share 29 rfl) ml_Mc_317 (by omega) (Nat.le_of_ble_eq_true rfl) (by assumption) (Cv.to (c_loadFalls (F := shF z) (t := t) (by exact hCu) (by exact hDe) ht w2 hL) ?_)
            rintro M1 ⟨fl2, wd2, w3, w4⟩
            subst w3
            first | refine wp_iincN (ck_get kk_Mc_share 30 rfl) rfl (by decide) rfl ?_ | refine wp_iinc (ck_get kk_Mc_share 30 rfl) rfl (by decide) rfl ?_
            refine wp_goto (t := 21) (ck_get kk_Mc_share 31 rfl) (by decide) ?_
            exact ih (t + 1) _ _ _ _ _ (by omega) w4
      have h0 := hlp 4 0 (mJ M 951) (mJ M 954) (mJ M 955) (mI M 948) (mI M 947) (by omega) (fun u c2 hu hc hp => by omega)
      rw [sh_id] at h0
      refine cw_entry 1 pf_Mc_share rfl ?_
      refine wp_iload_n rfl (ck_get kk_Mc_share 0 rfl) ?_
      refine wp_cS1i (ck_get kk_Mc_share 1 rfl) ml_Mc_103 (by omega) (Nat.le_of_ble_eq_true rfl) (Ci.to (c_isTenant) ?_)
      rintro _ M1 ⟨rfl, eqm1⟩
      obtain rfl := eqm1.symm
      rw [h2]
      first | refine wp_if_eqN (t := 17) (ck_get kk_Mc_share 2 rfl) (by decide) (by omega) (fun hc4 => ?_) (fun hc4 => ?_) | refine wp_if_eq (t := 17) (ck_get kk_Mc_share 2 rfl) (by decide) (fun hc4 => ?_) (fun hc4 => ?_)
      · exact absurd hc4 (by decide)
      · refine wp_iload_n rfl (ck_get kk_Mc_share 3 rfl) ?_
        first | refine wp_if_ltN (t := 17) (ck_get kk_Mc_share 4 rfl) (by decide) (by omega) (fun hc8 => ?_) (fun hc8 => ?_) | refine wp_if_lt (t := 17) (ck_get kk_Mc_share 4 rfl) (by decide) (fun hc8 => ?_) (fun hc8 => ?_)
        · exact hc8.elim
        · refine wp_iload_n rfl (ck_get kk_Mc_share 5 rfl) ?_
          refine wp_bipush (v := nI 48) (by decide) (ck_get kk_Mc_share 6 rfl) ?_
          first | refine wp_icmp_leN (t := 19) (ck_get kk_Mc_share 7 rfl) (by decide) (by omega) (by omega) (fun hc14 => ?_) (fun hc14 => ?_) | refine wp_icmp_le (t := 19) (ck_get kk_Mc_share 7 rfl) (by decide) (fun hc14 => ?_) (fun hc14 => ?_)
          · refine wp_iconst (v := nI 0) (by decide) (ck_get kk_Mc_share 10 rfl) ?_
            refine wp_istore_n (ck_get kk_Mc_share 11 rfl) (by decide) rfl ?_
            exact h0
          · omega
    · skip
      obtain ⟨hM, hSM, hUM, hIM, hDM, hPM, hNM, hBM⟩ := id h
      have to0 := hM.1
      have rfgets := MoAt.r hM 24 rfl
      have tfgets := MoAt.t hM 24 rfl
      have hl2 : ∀ (f b n : Nat → Int32), MsN f (sWo (zS z)) (fun _ => True) → (∀ t, t < 4 → BeL (shF z t) t b n) → ∀ e i (gt q : Nat → Int32) (jj : Nat → Int64), i + e = k → (∀ u, u < 4 → gt u = nI (shD (flT (shF z)) (wdT (shF z)) i u)) → (∀ k, k ≠ 45 → q k = mI M 1020 k) → Wp g Y_Mo_share 300 46 [some (.ref 1020), some (.int (nI k)), some (.int (nI v)), some (.int (nI i))] [] (sgM M f b n gt q jj) (fun r M2 => ∃ x, r = some (.int x) ∧ x = nI (shD (flT (shF z)) (wdT (shF z)) k v) ∧ MR z M2 ∧ CSame M M2) := by
        intro f b n hf hb e
        induction e with
        | zero =>
          intro i gt q jj h3 hg hq
          obtain rfl : i = k := by omega
          refine wp_iload_n rfl (ck_get kk_Mo_share 27 rfl) ?_
          refine wp_iload_n rfl (ck_get kk_Mo_share 28 rfl) ?_
          first | refine wp_icmp_geN (t := 70) (ck_get kk_Mo_share 29 rfl) (by decide) (by omega) (by omega) (fun hc48 => ?_) (fun hc48 => ?_) | refine wp_icmp_ge (t := 70) (ck_get kk_Mo_share 29 rfl) (by decide) (fun hc48 => ?_) (fun hc48 => ?_)
          · refine wp_aload_n rfl (ck_get kk_Mo_share 41 rfl) ?_
            refine wp_getR (ck_get kk_Mo_share 42 rfl) fl_Mo_103 (by assumption) (by assumption) ?_
            refine wp_iload_n rfl (ck_get kk_Mo_share 43 rfl) ?_
            refine wp_ialdv (v := nI (shD (flT (shF z)) (wdT (shF z)) i v)) (ck_get kk_Mo_share 44 rfl) (by assumption) (ixk_nI (k := v) (by omega) (by omega)) ((by rw [sg_g]; exact hg v hv)) ?_
            refine wp_ireturn (ck_get kk_Mo_share 45 rfl) rfl rfl ⟨_, rfl, ?_⟩
            exact ⟨rfl, h.sg hq, CSame.sg⟩
          · omega
        | succ e ih =>
          intro i gt q jj h3 hg hq
          obtain ⟨m, m1, m2, m3, m4⟩ := shD_s (fl := flT (shF z)) (wd := wdT (shF z)) (n := i) (by omega)
          have hf2 : ∀ t c, t < 4 → c < 25 → ∃ k : Nat, f (25 * t + c) = nI k ∧ shF z t c = k ∧ k ≤ 400000000 := fun t c ht hc => by
            refine ⟨msN (sWo (zS z)) t c, hf t c ht trivial hc, rfl, ?_⟩
            have q1 := hF t c ht hc
            have q2 : shF z t c = (msN (sWo (zS z)) t c : Int) := rfl
            omega
          refine wp_iload_n rfl (ck_get kk_Mo_share 27 rfl) ?_
          refine wp_iload_n rfl (ck_get kk_Mo_share 28 rfl) ?_
          first | refine wp_icmp_geN (t := 70) (ck_get kk_Mo_share 29 rfl) (by decide) (by omega) (by omega) (fun hc48 => ?_) (fun hc48 => ?_) | refine wp_icmp_ge (t := 70) (ck_get kk_Mo_share 29 rfl) (by decide) (fun hc48 => ?_) (fun hc48 => ?_)
          · omega
          · refine wp_aload_n rfl (ck_get kk_Mo_share 30 rfl) ?_
            refine wp_getR (ck_get kk_Mo_share 31 rfl) fl_Mo_103 (by assumption) (by assumption) ?_
            refine wp_aload_n rfl (ck_get kk_Mo_share 32 rfl) ?_
            refine wp_cV0i (ck_get kk_Mo_share 33 rfl) ml_Mo_446 (by omega) (Nat.le_of_ble_eq_true rfl) (by assumption) (Ci.to (m_whoGets (F := shF z) (d := shD (flT (shF z)) (wdT (shF z)) i) hM hf2 hb hg (shD_ok i).2) ?_)
            rintro x M1 ⟨w1, q2, jj2, w2, w3⟩
            rw [m2] at w1
            replace w1 : x = nI m := w1
            subst w1 w2
            first | refine wp_dup2l rfl (ck_get kk_Mo_share 34 rfl) ?_ | refine wp_dup2 rfl rfl (ck_get kk_Mo_share 34 rfl) ?_
            refine wp_ialdv (v := nI (shD (flT (shF z)) (wdT (shF z)) i m)) (ck_get kk_Mo_share 35 rfl) (by assumption) (ixk_nI (k := m) (by omega) (by omega)) ((by rw [sg_g]; exact hg m m1)) ?_
            refine wp_iconst (v := nI 1) (by decide) (ck_get kk_Mo_share 36 rfl) ?_
            first | refine wp_iaddN (ck_get kk_Mo_share 37 rfl) ?_ | refine wp_iadd (ck_get kk_Mo_share 37 rfl) ?_
            refine wp_iast (ck_get kk_Mo_share 38 rfl) (by assumption) (ixk_nI (k := m) (by omega) (by omega)) ?_
            rw [sg_sg]
            first | refine wp_iincN (ck_get kk_Mo_share 39 rfl) rfl (by decide) rfl ?_ | refine wp_iinc (ck_get kk_Mo_share 39 rfl) rfl (by decide) rfl ?_
            refine wp_goto (t := 46) (ck_get kk_Mo_share 40 rfl) (by decide) ?_
            refine ih (i + 1) _ _ _ (by omega) (fun u hu => ?_) (fun k hk => (w3 k hk).trans (hq k hk))
            rw [m4]
            by_cases e : u = m
            · subst e; rw [up1_eq, up1_eq]
            · rw [up1_ne e, up1_ne e]; exact hg u hu
      have hl1 : ∀ e t (f b n gt : Nat → Int32), t + e = 4 → MsN f (sWo (zS z)) (fun u => u < t) → (∀ u, u < t → BeL (shF z u) u b n) → (∀ u, u < t → gt u = nI 0) → Wp g Y_Mo_share 300 21 [some (.ref 1020), some (.int (nI k)), some (.int (nI v)), some (.int (nI t))] [] (sgM M f b n gt (mI M 1020) (mJ M 1020)) (fun r M2 => ∃ x, r = some (.int x) ∧ x = nI (shD (flT (shF z)) (wdT (shF z)) k v) ∧ MR z M2 ∧ CSame M M2) := by
        intro e
        induction e with
        | zero =>
          intro t f b n gt h3 hf hb hg
          refine wp_iload_n rfl (ck_get kk_Mo_share 12 rfl) ?_
          refine wp_iconst (v := nI 4) (by decide) (ck_get kk_Mo_share 13 rfl) ?_
          first | refine wp_icmp_geN (t := 44) (ck_get kk_Mo_share 14 rfl) (by decide) (by omega) (by omega) (fun hc23 => ?_) (fun hc23 => ?_) | refine wp_icmp_ge (t := 44) (ck_get kk_Mo_share 14 rfl) (by decide) (fun hc23 => ?_) (fun hc23 => ?_)
          · refine wp_iconst (v := nI 0) (by decide) (ck_get kk_Mo_share 25 rfl) ?_
            refine wp_istore_n (ck_get kk_Mo_share 26 rfl) (by decide) rfl ?_
            exact hl2 f b n (fun u c hu _ hc => hf u c hu (by omega) hc) (fun t ht => hb t (by omega)) k 0 gt _ _ (by omega) (fun u hu => hg u (by omega)) (fun _ _ => rfl)
          · omega
        | succ e ih =>
          intro t f b n gt h3 hf hb hg
          have ht : t < 4 := by omega
          have hlay := m_laysBends (g := g) (M := gtM (fdM M (mI M 1020) (mJ M 1020)) gt) (w := sWo (zS z)) (t := t) (P := mJ M 1023) (f0 := f) (b0 := b) (n0 := n) (by exact hM) (by rw [sg_22]; exact hSM.1) ht hB
          rw [sg_22] at hlay
          refine wp_iload_n rfl (ck_get kk_Mo_share 12 rfl) ?_
          refine wp_iconst (v := nI 4) (by decide) (ck_get kk_Mo_share 13 rfl) ?_
          first | refine wp_icmp_geN (t := 44) (ck_get kk_Mo_share 14 rfl) (by decide) (by omega) (by omega) (fun hc23 => ?_) (fun hc23 => ?_) | refine wp_icmp_ge (t := 44) (ck_get kk_Mo_share 14 rfl) (by decide) (fun hc23 => ?_) (fun hc23 => ?_)
          · omega
          · refine wp_aload_n rfl (ck_get kk_Mo_share 15 rfl) ?_
            refine wp_iload_n rfl (ck_get kk_Mo_share 16 rfl) ?_
            refine wp_cV1v (ck_get kk_Mo_share 17 rfl) ml_Mo_424 (by omega) (Nat.le_of_ble_eq_true rfl) (by assumption) (Cv.to (hlay) ?_)
            rintro M1 ⟨b2, n2, w1, w2, w3, w4⟩
            subst w1
            refine wp_aload_n rfl (ck_get kk_Mo_share 18 rfl) ?_
            refine wp_getR (ck_get kk_Mo_share 19 rfl) fl_Mo_103 (by assumption) (by assumption) ?_
            refine wp_iload_n rfl (ck_get kk_Mo_share 20 rfl) ?_
            refine wp_iconst (v := nI 0) (by decide) (ck_get kk_Mo_share 21 rfl) ?_
            refine wp_iast (ck_get kk_Mo_share 22 rfl) (by assumption) (ixk_nI (k := t) (by omega) (by omega)) ?_
            rw [sg_sg]
            first | refine wp_iincN (ck_get kk_Mo_share 23 rfl) rfl (by decide) rfl ?_ | refine wp_iinc (ck_get kk_Mo_share 23 rfl) rfl (by decide) rfl ?_
            refine wp_goto (t := 21) (ck_get kk_Mo_share 24 rfl) (by decide) ?_
            refine ih (t + 1) _ _ _ _ (by omega) (fun u c hu hp hc => ?_) (fun u hu => ?_) (fun u hu => ?_)
            · by_cases e : u = t
              · subst e; rw [lm_at hSM.1 hu hc, msW_nI]
              · have : lmF f (mI M 1022) t 0 (25 * u + c) = f (25 * u + c) := by
                  unfold lmF
                  rw [if_neg (by omega)]
                rw [this]; exact hf u c hu (by omega) hc
            · by_cases e : u = t
              · subst e; exact w2
              · obtain ⟨p1, p2⟩ := hb u (by omega)
                refine ⟨(w3 u e).trans p1, fun i hi => ?_⟩
                have := (nbL_ok (f := shF z u)).2
                rw [w4 _ (by omega)]; exact p2 i hi
            · by_cases e : u = t
              · subst e; rw [up1_eq]
              · rw [up1_ne e]; exact hg u (by omega)
      have h0 := hl1 4 0 (mI M 1040) (mI M 1041) (mI M 1042) (mI M 1045) (by omega) (fun u c hu hp hc => by omega) (fun u hu => by omega) (fun u hu => by omega)
      rw [sg_id] at h0
      refine cw_entry 1 pf_Mo_share rfl ?_
      refine wp_iload_n rfl (ck_get kk_Mo_share 0 rfl) ?_
      refine wp_iconst (v := nI 0) (by decide) (ck_get kk_Mo_share 1 rfl) ?_
      refine wp_bipush (v := nI 48) (by decide) (ck_get kk_Mo_share 2 rfl) ?_
      refine wp_cS3i (ck_get kk_Mo_share 3 rfl) ml_Mo_18 (by omega) (Nat.le_of_ble_eq_true rfl) (Ci.to (m_lies (by omega)) ?_)
      rintro _ M1 ⟨rfl, eqm1⟩
      obtain rfl := eqm1.symm
      rw [h1]
      first | refine wp_if_eqN (t := 17) (ck_get kk_Mo_share 4 rfl) (by decide) (by omega) (fun hc7 => ?_) (fun hc7 => ?_) | refine wp_if_eq (t := 17) (ck_get kk_Mo_share 4 rfl) (by decide) (fun hc7 => ?_) (fun hc7 => ?_)
      · exact absurd hc7 (by decide)
      · refine wp_iload_n rfl (ck_get kk_Mo_share 5 rfl) ?_
        refine wp_cS1i (ck_get kk_Mo_share 6 rfl) ml_Mo_152 (by omega) (Nat.le_of_ble_eq_true rfl) (Ci.to (m_isTenant) ?_)
        rintro _ M1 ⟨rfl, eqm1⟩
        obtain rfl := eqm1.symm
        rw [h2]
        first | refine wp_if_neN (t := 19) (ck_get kk_Mo_share 7 rfl) (by decide) (by omega) (fun hc14 => ?_) (fun hc14 => ?_) | refine wp_if_ne (t := 19) (ck_get kk_Mo_share 7 rfl) (by decide) (fun hc14 => ?_) (fun hc14 => ?_)
        · refine wp_iconst (v := nI 0) (by decide) (ck_get kk_Mo_share 10 rfl) ?_
          refine wp_istore_n (ck_get kk_Mo_share 11 rfl) (by decide) rfl ?_
          exact h0
        · exact absurd hc14 (by decide)
  · have hno : inB a 49 = false → ∀ (q1 : ¬ a < nI 0) (q2 : ¬ nI 48 < a), False := fun q0 q1 q2 => by
      rcases i32c a 49 (by omega) with ⟨k, hk, rfl⟩ | e
      · rw [inB_nI hk (by omega)] at q0; cases q0
      · exact i32o e 0 48 rfl (by omega) (by omega) q1 q2
    refine ⟨-1, z, hO.le (by omega), fun M h => ?_, fun M h => ?_⟩
    · have hCR := h
      have hC' := h.le (Nat.le_succ c)
      obtain ⟨pf, pg, hL, hSC, hTC, hIC, hDC, hPC, hNC, hBC, hZC⟩ := h
      obtain ⟨t0, ⟨r00, hSh⟩, ⟨r01, hTr⟩, ⟨r02, hTg⟩, ⟨r03, hWa⟩, ⟨r04, hWp⟩, ⟨r06, t921, r921a, r921b, hS0, hS1⟩, ⟨r07, t922⟩, ⟨r08, t923⟩, ⟨r010, hPa⟩, ⟨r011, hJu⟩, ⟨r012, hRe⟩, ⟨r013, hCu⟩, ⟨r014, hDe⟩, ⟨r018, t959⟩, hPf⟩ := id hL
      have t1 : mT M 1 = (6, 0) := hSh.1
      have r10 : mR M 1 0 = some 2 := hSh.2.1
      have hW2 : WoAt (mT M) (mR M) 2 := hSh.2.2.1
      have t2 : mT M 2 = (9, 0) := hW2.1
      have r20 : mR M 2 0 = some 3 := hW2.2.1
      have t3 : mT M 3 = (24, 4) := hW2.2.2.1
      have t31 : mT M 31 = (8, 0) := hTr.1
      have t924 : mT M 924 = (3, 0) := hPa.1
      have t934 : mT M 934 = (2, 0) := hJu.1
      have t938 : mT M 938 = (5, 0) := hRe.1
      have t947 : mT M 947 = (0, 0) := hCu.1
      have t952 : mT M 952 = (1, 0) := hDe.1
      refine cw_entry 1 pf_Mc_share rfl ?_
      refine wp_iload_n rfl (ck_get kk_Mc_share 0 rfl) ?_
      refine wp_cS1i (ck_get kk_Mc_share 1 rfl) ml_Mc_103 (by omega) (Nat.le_of_ble_eq_true rfl) (Ci.to (c_isTenant) ?_)
      rintro _ M1 ⟨rfl, eqm1⟩
      obtain rfl := eqm1.symm
      refine wp_if_eq (t := 17) (ck_get kk_Mc_share 2 rfl) (by decide) (fun hc4 => ?_) (fun hc4 => ?_)
      · refine wp_iconst (v := (-1)) (by decide) (ck_get kk_Mc_share 8 rfl) ?_
        refine wp_ireturn (ck_get kk_Mc_share 9 rfl) rfl rfl ⟨_, rfl, ?_⟩
        exact ⟨rfl, hC', MSame.refl _⟩
      · refine wp_iload_n rfl (ck_get kk_Mc_share 3 rfl) ?_
        refine wp_if_lt (t := 17) (ck_get kk_Mc_share 4 rfl) (by decide) (fun hc8 => ?_) (fun hc8 => ?_)
        · refine wp_iconst (v := (-1)) (by decide) (ck_get kk_Mc_share 8 rfl) ?_
          refine wp_ireturn (ck_get kk_Mc_share 9 rfl) rfl rfl ⟨_, rfl, ?_⟩
          exact ⟨rfl, hC', MSame.refl _⟩
        · refine wp_iload_n rfl (ck_get kk_Mc_share 5 rfl) ?_
          refine wp_bipush (v := nI 48) (by decide) (ck_get kk_Mc_share 6 rfl) ?_
          refine wp_icmp_le (t := 19) (ck_get kk_Mc_share 7 rfl) (by decide) (fun hc14 => ?_) (fun hc14 => ?_)
          · exfalso
            have hb4 : inB b 4 = true := by
              cases q : inB b 4 with
              | true => rfl
              | false => rw [q] at hc4; exact absurd rfl hc4
            have hna : inB a 49 = false := by
              cases q : inB a 49 with
              | false => rfl
              | true => exact absurd ⟨q, hb4⟩ hin
            exact hno hna hc8 (fun h => by have a := Int32.lt_iff_toInt_lt.mp h; have b := Int32.le_iff_toInt_le.mp hc14; omega)
          · refine wp_iconst (v := (-1)) (by decide) (ck_get kk_Mc_share 8 rfl) ?_
            refine wp_ireturn (ck_get kk_Mc_share 9 rfl) rfl rfl ⟨_, rfl, ?_⟩
            exact ⟨rfl, hC', MSame.refl _⟩
    · skip
      obtain ⟨hM, hSM, hUM, hIM, hDM, hPM, hNM, hBM⟩ := id h
      have to0 := hM.1
      refine cw_entry 1 pf_Mo_share rfl ?_
      refine wp_iload_n rfl (ck_get kk_Mo_share 0 rfl) ?_
      refine wp_iconst (v := nI 0) (by decide) (ck_get kk_Mo_share 1 rfl) ?_
      refine wp_bipush (v := nI 48) (by decide) (ck_get kk_Mo_share 2 rfl) ?_
      refine wp_cS3i (ck_get kk_Mo_share 3 rfl) ml_Mo_18 (by omega) (Nat.le_of_ble_eq_true rfl) (Ci.to (m_lies (by omega)) ?_)
      rintro _ M1 ⟨rfl, eqm1⟩
      obtain rfl := eqm1.symm
      refine wp_if_eq (t := 17) (ck_get kk_Mo_share 4 rfl) (by decide) (fun hc7 => ?_) (fun hc7 => ?_)
      · refine wp_iconst (v := (-1)) (by decide) (ck_get kk_Mo_share 8 rfl) ?_
        refine wp_ireturn (ck_get kk_Mo_share 9 rfl) rfl rfl ⟨_, rfl, ?_⟩
        exact ⟨rfl, h, CSame.refl _⟩
      · refine wp_iload_n rfl (ck_get kk_Mo_share 5 rfl) ?_
        refine wp_cS1i (ck_get kk_Mo_share 6 rfl) ml_Mo_152 (by omega) (Nat.le_of_ble_eq_true rfl) (Ci.to (m_isTenant) ?_)
        rintro _ M1 ⟨rfl, eqm1⟩
        obtain rfl := eqm1.symm
        refine wp_if_ne (t := 19) (ck_get kk_Mo_share 7 rfl) (by decide) (fun hc14 => ?_) (fun hc14 => ?_)
        · exfalso
          refine hin ⟨?_, ?_⟩
          · cases q : inB a 49 with
            | true => rfl
            | false => rw [q] at hc7; exact absurd rfl hc7
          · cases q : inB b 4 with
            | true => rfl
            | false => rw [q] at hc14; exact absurd rfl hc14
        · refine wp_iconst (v := (-1)) (by decide) (ck_get kk_Mo_share 8 rfl) ?_
          refine wp_ireturn (ck_get kk_Mo_share 9 rfl) rfl rfl ⟨_, rfl, ?_⟩
          exact ⟨rfl, h, CSame.refl _⟩
end SHX
