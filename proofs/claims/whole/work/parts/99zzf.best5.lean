/-! ===== best ===== -/
section BEW
variable {g : Gl} {M : Mem}
theorem CRi.kept2 {T T2 : Nat → Nat × Nat} {R R2 : Nat → Nat → Option Nat} {I I2 : Nat → Nat → Int32} {J J2 : Nat → Nat → Int64} {im : Nat → Option SH} (h : CRi T R I J im) (h1 : I2 922 = I 922) (h2 : ∀ x, 960 ≤ x → x < 1020 → I2 x = I x ∧ J2 x = J x) (h3 : R2 989 = R 989 ∧ R2 1019 = R 1019) (hk : HiK T R I T2 R2 I2) (hw : FwZ I2) : CRi T2 R2 I2 J2 im := by
  intro k hk2
  obtain ⟨a1, a2, a3⟩ := h k hk2
  have hr : R2 (960 + 30 * k + 29) = R (960 + 30 * k + 29) := by
    rcases (show k = 0 ∨ k = 1 by omega) with rfl | rfl
    · exact h3.1
    · exact h3.2
  exact ⟨by rw [h1]; exact a1, ⟨a2.1.kept hr hk, hw⟩, fun s hs => (a3 s hs).kept (fun x q1 q2 => h2 x (by omega) (by omega)) hr hk⟩
theorem CR.sc2 {c : Nat} {z : ST} {I2 : Nat → Nat → Int32} {J2 : Nat → Nat → Int64} (h : CR c z M) (hs : ∀ x, ¬ scX x → x ≠ 957 → I2 x = mI M x ∧ J2 x = mJ M x) (hw : FwZ I2) : CR (c + 1) z (mk2 M I2 J2) := by
  obtain ⟨pf, pg, hL, h1, h2, h3, h4, h5, h6, h7, h8⟩ := h
  have e4 : ∀ x, ¬ scX x → x ≠ 957 → I2 x = mI M x ∧ J2 x = mJ M x := hs
  have hk : HiK (mT M) (mR M) (mI M) (mT M) (mR M) I2 := HiK.same (fun x hx => (e4 x (by unfold scX; omega) (by omega)).1)
  have hP := hL.2.2.2.2.2.2.2.2.2.2.2.2.2.2.2
  exact ⟨pf, pg, hL, h1.kept (fun x q1 q2 => e4 x (by unfold scX; omega) (by omega)) rfl hk, h2.kept ⟨(e4 31 (by unfold scX; omega) (by omega)).1, (e4 33 (by unfold scX; omega) (by omega)).1⟩ (fun s hs x q1 q2 => e4 x (by have := slA_lt (hP.1 s hs).1; unfold scX; omega) (by have := slA_lt (hP.1 s hs).1; omega)), h3.kept2 (e4 922 (by unfold scX; omega) (by omega)).1 (fun x q1 q2 => e4 x (by unfold scX; omega) (by omega)) ⟨rfl, rfl⟩ hk hw, h4.kept (congrFun (e4 0 (by unfold scX; omega) (by omega)).1 5) (fun x q1 q2 => e4 x (by unfold scX; omega) (by omega)), h5.kept (congrFun (e4 0 (by unfold scX; omega) (by omega)).1 9) (e4 923 (by unfold scX; omega) (by omega)).1, h6.kept ⟨congrFun (e4 0 (by unfold scX; omega) (by omega)).1 15, congrFun (e4 0 (by unfold scX; omega) (by omega)).1 16, congrFun (e4 0 (by unfold scX; omega) (by omega)).1 17⟩ (congrFun (e4 924 (by unfold scX; omega) (by omega)).1 1) (e4 959 (by unfold scX; omega) (by omega)).1, h7.kept rfl (e4 949 (by unfold scX; omega) (by omega)).1 (fun v hv _ => ⟨rfl, (e4 v (by unfold scX; omega) (by omega)).1⟩), h8.le (by omega)⟩
theorem CR.de {c : Nat} {z : ST} {f a s d : Nat → Int32} (h : CR c z M) (ha : ∀ k, 196 ≤ k → k < 245 → a k = nI 0) : CR (c + 1) z (deM M f a s d) := h.sc2 (fun x q1 q2 => ⟨by unfold scX at q1; exact de_x (M := M) (f := f) (a := a) (s := s) (d := d) (by omega) (by omega), rfl⟩) (fun j p q => (congrFun (de_a (M := M) (f := f) (a := a) (s := s) (d := d)) j).trans (ha j p q))
theorem MSame.de {f a s d : Nat → Int32} : MSame M (deM M f a s d) := MSame.mk2 (fun x q1 q2 => ⟨de_x (M := M) (f := f) (a := a) (s := s) (d := d) (by omega) (by omega), rfl⟩)
theorem MR.fr {z : ST} {f a : Nat → Int32} (h : MR z M) : MR z (mfM (frM M a) f) := MR.mf (M := frM M a) (h.sc (fun x q => up1_ne (by unfold moK at q; omega)) (fun x _ => rfl) (fun k _ => by rw [up1_ne (by omega)]) (by rw [up1_ne (by omega)]; exact h.2.2.2.2.2.2.1.2.2.2.2.1))
theorem CSame.fr {f a : Nat → Int32} : CSame M (mfM (frM M a) f) := CSame.trans (M2 := frM M a) (CSame.mk2 (fun x q => ⟨up1_ne (by omega), rfl⟩)) CSame.mf
/-- the class, both numbers fine -/
theorem c_bestW {c k : Nat} {z : ST} {tn : Int32} (h : CR c z M) (hO : ZOK c z) (hc : c < 512) (hk : k ≤ 48) {Q : Option Value → Mem → Prop}
    (K : ∀ f a s d, (∀ i, 196 ≤ i → i < 245 → a i = nI 0) → (∀ u, u < 4 → d u = nI (vS (msN (sWo (zS z))) u (lfT (msN (sWo (zS z))) k u))) → Wp g Y_Mc_best 300 66 [some (.ref 0), some (.int (nI k)), some (.int tn), some (.int (nI (bstT (msN (sWo (zS z))) 4 k).2))] [] (deM M f a s d) Q) : Wp g Y_Mc_best 300 24 [some (.ref 0), some (.int (nI k)), some (.int tn), none] [] M Q := by
  have hB : tot (sWo (zS z)) ≤ bC c := hO.1.2.1
  have hb : bC c < 400000000 := by unfold bC; omega
  have hFw := (h.choose_spec.choose_spec.2.2.2.1 0 (by omega)).2.1.2
  have hC' := h.le (Nat.le_succ c)
  obtain ⟨pf, pg, hL, hSC, hTC, hIC, hDC, hPC, hNC, hBC, hZC⟩ := h
  obtain ⟨t0, ⟨r00, hSh⟩, ⟨r01, hTr⟩, ⟨r02, hTg⟩, ⟨r03, hWa⟩, ⟨r04, hWp⟩, ⟨r06, t921, r921a, r921b, hS0, hS1⟩, ⟨r07, t922⟩, ⟨r08, t923⟩, ⟨r010, hPa⟩, ⟨r011, hJu⟩, ⟨r012, hRe⟩, ⟨r013, hCu⟩, ⟨r014, hDe⟩, ⟨r018, t959⟩, hPf⟩ := id hL
  have t1 : mT M 1 = (6, 0) := hSh.1
  have r10 : mR M 1 0 = some 2 := hSh.2.1
  have hW2 : WoAt (mT M) (mR M) 2 := hSh.2.2.1
  have t2 : mT M 2 = (9, 0) := hW2.1
  have r20 : mR M 2 0 = some 3 := hW2.2.1
  have t3 : mT M 3 = (24, 4) := hW2.2.2.1
  have t31 : mT M 31 = (8, 0) := hTr.1
  have t924 : mT M 924 = (3, 0) := hPa.1
  have t934 : mT M 934 = (2, 0) := hJu.1
  have t938 : mT M 938 = (5, 0) := hRe.1
  have t947 : mT M 947 = (0, 0) := hCu.1
  have t952 : mT M 952 = (1, 0) := hDe.1
  have hlp : ∀ e t (f : Nat → Int32), t + e = 4 → MsN f (sWo (zS z)) (fun u => u < t) → Wp g Y_Mc_best 300 26 [some (.ref 0), some (.int (nI k)), some (.int tn), some (.int (nI t))] [] (deM M f (mI M 957) (mI M 958) (mI M 953)) Q := by
    intro e
    induction e with
    | zero =>
      intro t f h1 hf
      refine wp_iload_n rfl (ck_get kk_Mc_best 15 rfl) ?_
      refine wp_iconst (v := nI 4) (by decide) (ck_get kk_Mc_best 16 rfl) ?_
      first | refine wp_icmp_geN (t := 57) (ck_get kk_Mc_best 17 rfl) (by decide) (by omega) (by omega) (fun hc28 => ?_) (fun hc28 => ?_) | refine wp_icmp_ge (t := 57) (ck_get kk_Mc_best 17 rfl) (by decide) (fun hc28 => ?_) (fun hc28 => ?_)
      · refine wp_aload_n rfl (ck_get kk_Mc_best 30 rfl) ?_
        refine wp_getR (ck_get kk_Mc_best 31 rfl) fl_Mc_87 (by assumption) (by assumption) ?_
        refine wp_iload_n rfl (ck_get kk_Mc_best 32 rfl) ?_
        refine wp_cV1i (ck_get kk_Mc_best 33 rfl) ml_Mc_331 (by omega) (Nat.le_of_ble_eq_true rfl) (by assumption) (Ci.to (c_dealBest (m := msN (sWo (zS z))) (s0 := sTo (sWo (zS z))) (by exact hDe) (fun t c ht hc => msN_le hc) (by rw [sfx_tot]; omega) (fun u c hu hc => hf u c hu (by omega) hc) hk hFw) ?_)
        rintro x M1 ⟨w1, a2, s2, d2, w2, w3, w4⟩
        subst w1 w2
        refine wp_istore_n (ck_get kk_Mc_best 34 rfl) (by decide) rfl ?_
        exact K _ _ _ _ w3 w4
      · omega
    | succ e ih =>
      intro t f h1 hf
      have ht : t < 4 := by omega
      have rTe : mR M 3 t = some (4 + 6 * t) := (hW2.2.2.2 t ht).1
      have hTA : TeAt (mT M) (mR M) (4 + 6 * t) := (hW2.2.2.2 t ht).2
      have hTH : TeHas (mI M) (mJ M) (4 + 6 * t) ((sWo (zS z)).2 t) := hSC.1.2 t ht
      have tTe := hTA.1
      refine wp_iload_n rfl (ck_get kk_Mc_best 15 rfl) ?_
      refine wp_iconst (v := nI 4) (by decide) (ck_get kk_Mc_best 16 rfl) ?_
      first | refine wp_icmp_geN (t := 57) (ck_get kk_Mc_best 17 rfl) (by decide) (by omega) (by omega) (fun hc28 => ?_) (fun hc28 => ?_) | refine wp_icmp_ge (t := 57) (ck_get kk_Mc_best 17 rfl) (by decide) (fun hc28 => ?_) (fun hc28 => ?_)
      · omega
      · refine wp_aload_n rfl (ck_get kk_Mc_best 18 rfl) ?_
        refine wp_getR (ck_get kk_Mc_best 19 rfl) fl_Mc_87 (by assumption) (by assumption) ?_
        refine wp_iload_n rfl (ck_get kk_Mc_best 20 rfl) ?_
        refine wp_aload_n rfl (ck_get kk_Mc_best 21 rfl) ?_
        refine wp_getR (ck_get kk_Mc_best 22 rfl) fl_Mc_12 (by assumption) (by assumption) ?_
        refine wp_getR (ck_get kk_Mc_best 23 rfl) fl_Mc_107 (by assumption) (by assumption) ?_
        refine wp_getR (ck_get kk_Mc_best 24 rfl) fl_Mc_110 (by assumption) (by assumption) ?_
        refine wp_iload_n rfl (ck_get kk_Mc_best 25 rfl) ?_
        refine wp_aald (ck_get kk_Mc_best 26 rfl) (by assumption) (by first | assumption | exact ixk_nI (by omega) (by omega)) (by assumption) ?_
        refine wp_cV2v (ck_get kk_Mc_best 27 rfl) ml_Mc_327 (by omega) (Nat.le_of_ble_eq_true rfl) (by assumption) (Cv.to (c_loadM (t := t) (w := sWo (zS z)) (by exact hW2) (by exact hSC.1) (by exact hDe) ht hf) ?_)
        rintro M1 ⟨f2, w1, w2⟩
        subst w1
        first | refine wp_iincN (ck_get kk_Mc_best 28 rfl) rfl (by decide) rfl ?_ | refine wp_iinc (ck_get kk_Mc_best 28 rfl) rfl (by decide) rfl ?_
        refine wp_goto (t := 26) (ck_get kk_Mc_best 29 rfl) (by decide) ?_
        exact ih (t + 1) f2 (by omega) w2
  have h0 := hlp 4 0 (mI M 956) (by omega) (fun u c hu hp hc => by omega)
  rw [de_id] at h0
  refine wp_iconst (v := nI 0) (by decide) (ck_get kk_Mc_best 13 rfl) ?_
  refine wp_istore_n (ck_get kk_Mc_best 14 rfl) (by decide) rfl ?_
  exact h0
theorem m_one : (-1 : Int32) = -nI 1 := by decide
theorem b_best {a b : Int32} : Both g Y_Mc_best Y_Mo_best [.int a, .int b] := by
  intro c z hc hO
  have hB : tot (sWo (zS z)) ≤ bC c := hO.1.2.1
  have hb : bC c < 400000000 := by unfold bC; omega
  by_cases hin : inB a 49 = true ∧ (b = -1 ∨ inB b 4 = true)
  · obtain ⟨h1, h2⟩ := hin
    obtain ⟨k, hk, rfl⟩ := inB_t h1 (by omega)
    rcases h2 with rfl | h2
    · refine ⟨nI (bstT (msN (sWo (zS z))) 4 k).2, z, hO.le (by omega), fun M h => ?_, fun M h => ?_⟩
      · have hCR := h
        have hC' := h.le (Nat.le_succ c)
        obtain ⟨pf, pg, hL, hSC, hTC, hIC, hDC, hPC, hNC, hBC, hZC⟩ := h
        obtain ⟨t0, ⟨r00, hSh⟩, ⟨r01, hTr⟩, ⟨r02, hTg⟩, ⟨r03, hWa⟩, ⟨r04, hWp⟩, ⟨r06, t921, r921a, r921b, hS0, hS1⟩, ⟨r07, t922⟩, ⟨r08, t923⟩, ⟨r010, hPa⟩, ⟨r011, hJu⟩, ⟨r012, hRe⟩, ⟨r013, hCu⟩, ⟨r014, hDe⟩, ⟨r018, t959⟩, hPf⟩ := id hL
        have t1 : mT M 1 = (6, 0) := hSh.1
        have r10 : mR M 1 0 = some 2 := hSh.2.1
        have hW2 : WoAt (mT M) (mR M) 2 := hSh.2.2.1
        have t2 : mT M 2 = (9, 0) := hW2.1
        have r20 : mR M 2 0 = some 3 := hW2.2.1
        have t3 : mT M 3 = (24, 4) := hW2.2.2.1
        have t31 : mT M 31 = (8, 0) := hTr.1
        have t924 : mT M 924 = (3, 0) := hPa.1
        have t934 : mT M 934 = (2, 0) := hJu.1
        have t938 : mT M 938 = (5, 0) := hRe.1
        have t947 : mT M 947 = (0, 0) := hCu.1
        have t952 : mT M 952 = (1, 0) := hDe.1
        refine cw_entry 1 pf_Mc_best rfl ?_
        refine wp_iload_n rfl (ck_get kk_Mc_best 0 rfl) ?_
        refine wp_iconst (v := (-1)) (by decide) (ck_get kk_Mc_best 1 rfl) ?_
        refine wp_icmp_eq (t := 12) (ck_get kk_Mc_best 2 rfl) (by decide) (fun hc2 => ?_) (fun hc2 => ?_)
        · refine wp_iload_n rfl (ck_get kk_Mc_best 6 rfl) ?_
          first | refine wp_if_ltN (t := 22) (ck_get kk_Mc_best 7 rfl) (by decide) (by omega) (fun hc13 => ?_) (fun hc13 => ?_) | refine wp_if_lt (t := 22) (ck_get kk_Mc_best 7 rfl) (by decide) (fun hc13 => ?_) (fun hc13 => ?_)
          · exact hc13.elim
          · refine wp_iload_n rfl (ck_get kk_Mc_best 8 rfl) ?_
            refine wp_bipush (v := nI 48) (by decide) (ck_get kk_Mc_best 9 rfl) ?_
            first | refine wp_icmp_leN (t := 24) (ck_get kk_Mc_best 10 rfl) (by decide) (by omega) (by omega) (fun hc19 => ?_) (fun hc19 => ?_) | refine wp_icmp_le (t := 24) (ck_get kk_Mc_best 10 rfl) (by decide) (fun hc19 => ?_) (fun hc19 => ?_)
            · refine c_bestW hCR hO hc (by omega) (fun f a s d h1 h2 => ?_)
              refine wp_iload_n rfl (ck_get kk_Mc_best 35 rfl) ?_
              refine wp_iconst (v := (-1)) (by decide) (ck_get kk_Mc_best 36 rfl) ?_
              refine wp_icmp_ne (t := 75) (ck_get kk_Mc_best 37 rfl) (by decide) (fun hc68 => ?_) (fun hc68 => ?_)
              · exact absurd rfl hc68
              · refine wp_iload_n rfl (ck_get kk_Mc_best 38 rfl) ?_
                refine wp_goto (t := 84) (ck_get kk_Mc_best 39 rfl) (by decide) ?_
                refine wp_ireturn (ck_get kk_Mc_best 45 rfl) rfl rfl ⟨_, rfl, ?_⟩
                exact ⟨rfl, hCR.de h1, MSame.de⟩
            · omega
        · exact absurd rfl hc2
      · skip
        obtain ⟨hM, hSM, hUM, hIM, hDM, hPM, hNM, hBM⟩ := id h
        have to0 := hM.1
        refine cw_entry 3 pf_Mo_best rfl ?_
        refine wp_iload_n rfl (ck_get kk_Mo_best 0 rfl) ?_
        refine wp_iconst (v := nI 0) (by decide) (ck_get kk_Mo_best 1 rfl) ?_
        refine wp_bipush (v := nI 48) (by decide) (ck_get kk_Mo_best 2 rfl) ?_
        refine wp_cS3i (ck_get kk_Mo_best 3 rfl) ml_Mo_18 (by omega) (Nat.le_of_ble_eq_true rfl) (Ci.to (m_lies (by omega)) ?_)
        rintro _ M1 ⟨rfl, eqm1⟩
        obtain rfl := eqm1.symm
        rw [h1]
        first | refine wp_if_eqN (t := 19) (ck_get kk_Mo_best 4 rfl) (by decide) (by omega) (fun hc7 => ?_) (fun hc7 => ?_) | refine wp_if_eq (t := 19) (ck_get kk_Mo_best 4 rfl) (by decide) (fun hc7 => ?_) (fun hc7 => ?_)
        · exact absurd hc7 (by decide)
        · refine wp_iload_n rfl (ck_get kk_Mo_best 5 rfl) ?_
          refine wp_iconst (v := (-1)) (by decide) (ck_get kk_Mo_best 6 rfl) ?_
          refine wp_iconst (v := nI 3) (by decide) (ck_get kk_Mo_best 7 rfl) ?_
          refine wp_cS3i (ck_get kk_Mo_best 8 rfl) ml_Mo_18 (by omega) (Nat.le_of_ble_eq_true rfl) (Ci.to (m_liesG) ?_)
          rintro _ M1 ⟨rfl, eqm1⟩
          obtain rfl := eqm1.symm
          rw [(show decide ((-1 : Int32) ≤ -1 ∧ (-1 : Int32) ≤ nI 3) = true by decide)]
          first | refine wp_if_neN (t := 21) (ck_get kk_Mo_best 9 rfl) (by decide) (by omega) (fun hc16 => ?_) (fun hc16 => ?_) | refine wp_if_ne (t := 21) (ck_get kk_Mo_best 9 rfl) (by decide) (fun hc16 => ?_) (fun hc16 => ?_)
          · refine wp_aload_n rfl (ck_get kk_Mo_best 12 rfl) ?_
            refine wp_iload_n rfl (ck_get kk_Mo_best 13 rfl) ?_
            refine wp_cV1v (ck_get kk_Mo_best 14 rfl) ml_Mo_459 (by omega) (Nat.le_of_ble_eq_true rfl) (by assumption) (Cv.to (m_laysFew (s0 := sTo (sWo (zS z))) hM hSM.1 (fun t c ht hc => msN_le hc) (by rw [sfx_tot]; omega) (by omega)) ?_)
            rintro M1 ⟨f, a2, w1, w2, w3, w4⟩
            subst w1
            refine wp_iload_n rfl (ck_get kk_Mo_best 15 rfl) ?_
            refine wp_iconst (v := (-1)) (by decide) (ck_get kk_Mo_best 16 rfl) ?_
            refine wp_icmp_ne (t := 38) (ck_get kk_Mo_best 17 rfl) (by decide) (fun hc28 => ?_) (fun hc28 => ?_)
            · exact absurd rfl hc28
            · refine wp_aload_n rfl (ck_get kk_Mo_best 18 rfl) ?_
              refine wp_iconst (v := nI 0) (by decide) (ck_get kk_Mo_best 19 rfl) ?_
              refine wp_iload_n rfl (ck_get kk_Mo_best 20 rfl) ?_
              refine wp_cV2i (ck_get kk_Mo_best 21 rfl) ml_Mo_452 (by omega) (Nat.le_of_ble_eq_true rfl) (by assumption) (Ci.to (m_fewAt (t := 0) (l := k) (by exact hM) (by omega) (by omega)) ?_)
              rintro x M1 ⟨e1, e2⟩
              subst e2
              refine wp_ireturn (ck_get kk_Mo_best 22 rfl) rfl rfl ⟨_, rfl, ?_⟩
              refine ⟨?_, h.fr, CSame.fr⟩
              rw [e1, fr_46]
              exact w3 0 k (by omega) (by omega) (by omega)
          · exact absurd hc16 (by decide)
    · obtain ⟨j, hj, rfl⟩ := inB_t h2 (by omega)
      have hjj : decide ((-1 : Int32) ≤ nI j ∧ nI j ≤ nI 3) = true := by
        rcases (show j = 0 ∨ j = 1 ∨ j = 2 ∨ j = 3 by omega) with rfl | rfl | rfl | rfl <;> decide
      refine ⟨nI (vS (msN (sWo (zS z))) j (lfT (msN (sWo (zS z))) k j)), z, hO.le (by omega), fun M h => ?_, fun M h => ?_⟩
      · have hCR := h
        have hC' := h.le (Nat.le_succ c)
        obtain ⟨pf, pg, hL, hSC, hTC, hIC, hDC, hPC, hNC, hBC, hZC⟩ := h
        obtain ⟨t0, ⟨r00, hSh⟩, ⟨r01, hTr⟩, ⟨r02, hTg⟩, ⟨r03, hWa⟩, ⟨r04, hWp⟩, ⟨r06, t921, r921a, r921b, hS0, hS1⟩, ⟨r07, t922⟩, ⟨r08, t923⟩, ⟨r010, hPa⟩, ⟨r011, hJu⟩, ⟨r012, hRe⟩, ⟨r013, hCu⟩, ⟨r014, hDe⟩, ⟨r018, t959⟩, hPf⟩ := id hL
        have t1 : mT M 1 = (6, 0) := hSh.1
        have r10 : mR M 1 0 = some 2 := hSh.2.1
        have hW2 : WoAt (mT M) (mR M) 2 := hSh.2.2.1
        have t2 : mT M 2 = (9, 0) := hW2.1
        have r20 : mR M 2 0 = some 3 := hW2.2.1
        have t3 : mT M 3 = (24, 4) := hW2.2.2.1
        have t31 : mT M 31 = (8, 0) := hTr.1
        have t924 : mT M 924 = (3, 0) := hPa.1
        have t934 : mT M 934 = (2, 0) := hJu.1
        have t938 : mT M 938 = (5, 0) := hRe.1
        have t947 : mT M 947 = (0, 0) := hCu.1
        have t952 : mT M 952 = (1, 0) := hDe.1
        refine cw_entry 1 pf_Mc_best rfl ?_
        refine wp_iload_n rfl (ck_get kk_Mc_best 0 rfl) ?_
        refine wp_iconst (v := (-1)) (by decide) (ck_get kk_Mc_best 1 rfl) ?_
        refine wp_icmp_eq (t := 12) (ck_get kk_Mc_best 2 rfl) (by decide) (fun hc2 => ?_) (fun hc2 => ?_)
        · exact absurd hc2 (nI_ne1 (by omega))
        · refine wp_iload_n rfl (ck_get kk_Mc_best 3 rfl) ?_
          refine wp_cS1i (ck_get kk_Mc_best 4 rfl) ml_Mc_103 (by omega) (Nat.le_of_ble_eq_true rfl) (Ci.to (c_isTenant) ?_)
          rintro _ M1 ⟨rfl, eqm1⟩
          obtain rfl := eqm1.symm
          rw [h2]
          first | refine wp_if_eqN (t := 22) (ck_get kk_Mc_best 5 rfl) (by decide) (by omega) (fun hc9 => ?_) (fun hc9 => ?_) | refine wp_if_eq (t := 22) (ck_get kk_Mc_best 5 rfl) (by decide) (fun hc9 => ?_) (fun hc9 => ?_)
          · exact absurd hc9 (by decide)
          · refine wp_iload_n rfl (ck_get kk_Mc_best 6 rfl) ?_
            first | refine wp_if_ltN (t := 22) (ck_get kk_Mc_best 7 rfl) (by decide) (by omega) (fun hc13 => ?_) (fun hc13 => ?_) | refine wp_if_lt (t := 22) (ck_get kk_Mc_best 7 rfl) (by decide) (fun hc13 => ?_) (fun hc13 => ?_)
            · exact hc13.elim
            · refine wp_iload_n rfl (ck_get kk_Mc_best 8 rfl) ?_
              refine wp_bipush (v := nI 48) (by decide) (ck_get kk_Mc_best 9 rfl) ?_
              first | refine wp_icmp_leN (t := 24) (ck_get kk_Mc_best 10 rfl) (by decide) (by omega) (by omega) (fun hc19 => ?_) (fun hc19 => ?_) | refine wp_icmp_le (t := 24) (ck_get kk_Mc_best 10 rfl) (by decide) (fun hc19 => ?_) (fun hc19 => ?_)
              · refine c_bestW hCR hO hc (by omega) (fun f a s d h1 h2 => ?_)
                have rd : mR M 952 0 = some 953 := hDe.2.1
                have td : mT M 953 = (20, 4) := hDe.2.2.1
                refine wp_iload_n rfl (ck_get kk_Mc_best 35 rfl) ?_
                refine wp_iconst (v := (-1)) (by decide) (ck_get kk_Mc_best 36 rfl) ?_
                refine wp_icmp_ne (t := 75) (ck_get kk_Mc_best 37 rfl) (by decide) (fun hc68 => ?_) (fun hc68 => ?_)
                · refine wp_aload_n rfl (ck_get kk_Mc_best 40 rfl) ?_
                  refine wp_getR (ck_get kk_Mc_best 41 rfl) fl_Mc_87 (by assumption) (by assumption) ?_
                  refine wp_getR (ck_get kk_Mc_best 42 rfl) fl_Mc_324 (by assumption) (by assumption) ?_
                  refine wp_iload_n rfl (ck_get kk_Mc_best 43 rfl) ?_
                  refine wp_ialdv (v := nI (vS (msN (sWo (zS z))) j (lfT (msN (sWo (zS z))) k j))) (ck_get kk_Mc_best 44 rfl) (by assumption) (ixk_nI (k := j) (by omega) (by omega)) ((congrFun de_d j).trans (h2 j hj)) ?_
                  refine wp_ireturn (ck_get kk_Mc_best 45 rfl) rfl rfl ⟨_, rfl, ?_⟩
                  exact ⟨rfl, hCR.de h1, MSame.de⟩
                · exact absurd (by assumption) (nI_ne1 (by omega))
              · omega
      · skip
        obtain ⟨hM, hSM, hUM, hIM, hDM, hPM, hNM, hBM⟩ := id h
        have to0 := hM.1
        refine cw_entry 3 pf_Mo_best rfl ?_
        refine wp_iload_n rfl (ck_get kk_Mo_best 0 rfl) ?_
        refine wp_iconst (v := nI 0) (by decide) (ck_get kk_Mo_best 1 rfl) ?_
        refine wp_bipush (v := nI 48) (by decide) (ck_get kk_Mo_best 2 rfl) ?_
        refine wp_cS3i (ck_get kk_Mo_best 3 rfl) ml_Mo_18 (by omega) (Nat.le_of_ble_eq_true rfl) (Ci.to (m_lies (by omega)) ?_)
        rintro _ M1 ⟨rfl, eqm1⟩
        obtain rfl := eqm1.symm
        rw [h1]
        first | refine wp_if_eqN (t := 19) (ck_get kk_Mo_best 4 rfl) (by decide) (by omega) (fun hc7 => ?_) (fun hc7 => ?_) | refine wp_if_eq (t := 19) (ck_get kk_Mo_best 4 rfl) (by decide) (fun hc7 => ?_) (fun hc7 => ?_)
        · exact absurd hc7 (by decide)
        · refine wp_iload_n rfl (ck_get kk_Mo_best 5 rfl) ?_
          refine wp_iconst (v := (-1)) (by decide) (ck_get kk_Mo_best 6 rfl) ?_
          refine wp_iconst (v := nI 3) (by decide) (ck_get kk_Mo_best 7 rfl) ?_
          refine wp_cS3i (ck_get kk_Mo_best 8 rfl) ml_Mo_18 (by omega) (Nat.le_of_ble_eq_true rfl) (Ci.to (m_liesG) ?_)
          rintro _ M1 ⟨rfl, eqm1⟩
          obtain rfl := eqm1.symm
          rw [hjj]
          first | refine wp_if_neN (t := 21) (ck_get kk_Mo_best 9 rfl) (by decide) (by omega) (fun hc16 => ?_) (fun hc16 => ?_) | refine wp_if_ne (t := 21) (ck_get kk_Mo_best 9 rfl) (by decide) (fun hc16 => ?_) (fun hc16 => ?_)
          · refine wp_aload_n rfl (ck_get kk_Mo_best 12 rfl) ?_
            refine wp_iload_n rfl (ck_get kk_Mo_best 13 rfl) ?_
            refine wp_cV1v (ck_get kk_Mo_best 14 rfl) ml_Mo_459 (by omega) (Nat.le_of_ble_eq_true rfl) (by assumption) (Cv.to (m_laysFew (s0 := sTo (sWo (zS z))) hM hSM.1 (fun t c ht hc => msN_le hc) (by rw [sfx_tot]; omega) (by omega)) ?_)
            rintro M1 ⟨f, a2, w1, w2, w3, w4⟩
            subst w1
            refine wp_iload_n rfl (ck_get kk_Mo_best 15 rfl) ?_
            refine wp_iconst (v := (-1)) (by decide) (ck_get kk_Mo_best 16 rfl) ?_
            refine wp_icmp_ne (t := 38) (ck_get kk_Mo_best 17 rfl) (by decide) (fun hc28 => ?_) (fun hc28 => ?_)
            · refine wp_iload_n rfl (ck_get kk_Mo_best 23 rfl) ?_
              refine wp_istore_n (ck_get kk_Mo_best 24 rfl) (by decide) rfl ?_
              refine wp_iconst (v := nI 0) (by decide) (ck_get kk_Mo_best 25 rfl) ?_
              refine wp_istore (ck_get kk_Mo_best 26 rfl) (by decide) rfl ?_
              refine wp_iconst (v := nI 0) (by decide) (ck_get kk_Mo_best 27 rfl) ?_
              refine wp_istore (ck_get kk_Mo_best 28 rfl) (by decide) rfl ?_
              skip
              have hwh : ∀ {Q : Option Value → Mem → Prop} t d l, t + d = 3 → l ≤ k → (∀ x4 : Nat, x4 = vS (msN (sWo (zS z))) t l → Wp g Y_Mo_best 300 80 [some (.ref 1020), some (.int (nI k)), some (.int (nI j)), some (.int (nI l)), some (.int (nI x4)), some (.int (nI t))] [] (mfM (frM M a2) f) Q) → ∀ e i, i + e = vS (msN (sWo (zS z))) t l → Wp g Y_Mo_best 300 55 [some (.ref 1020), some (.int (nI k)), some (.int (nI j)), some (.int (nI l)), some (.int (nI i)), some (.int (nI t))] [] (mfM (frM M a2) f) Q := by
                intro Q t d l hd hl K e
                have hbs : bstT (msN (sWo (zS z))) (4 - t) l = akF (bstH (msN (sWo (zS z))) t d l) (min 24 l) := by
                  rw [show 4 - t = d + 1 by omega]; exact bst_s hd
                obtain ⟨k1, k2, k3, k4⟩ := akF_mn (h := bstH (msN (sWo (zS z))) t d l) (min 24 l)
                rw [← hbs] at k1 k2 k3 k4
                have hrow := w3.row hd (l := l) (fun i hi => w4 i (by omega)) (by omega) (fun i hi => by omega)
                have hH := fun c hc => bstH_le (m := msN (sWo (zS z))) (s := sTo (sWo (zS z))) (fun t c ht hc => msN_le hc) (t := t) (d := d) (l := l) (c := c) hd hc
                rw [sfx_tot] at hH
                have va : ∀ i, i < 25 → mI (mfM (frM M a2) f) 1040 (25 * t + i) = nI (msN (sWo (zS z)) t i) := fun i hi => by rw [mf_40]; exact w2 t i (by omega) trivial hi
                have vb : ∀ i, i ≤ l → mI (mfM (frM M a2) f) 1046 (49 * (t + 1) + (l - i)) = nI (bstT (msN (sWo (zS z))) d (l - i)).2 := fun i hi => by rw [fr_46]; exact hrow _ (by omega)
                have vc : mI (mfM (frM M a2) f) 1046 (49 * t + l) = nI (bstT (msN (sWo (zS z))) (4 - t) l).2 := by rw [fr_46]; exact w3 t l (by omega) (by omega) hl
                have k3' : vS (msN (sWo (zS z))) t l ≤ min 24 l := k3
                have k0 := k4 0 (by omega)
                have hH0 := hH 0 (by omega)
                induction e with
                | zero =>
                  intro i h1
                  obtain rfl : i = vS (msN (sWo (zS z))) t l := by omega
                  have k1' : msN (sWo (zS z)) t (vS (msN (sWo (zS z))) t l) + (bstT (msN (sWo (zS z))) d (l - vS (msN (sWo (zS z))) t l)).2 = (bstT (msN (sWo (zS z))) (4 - t) l).2 := k1
                  refine wp_aload_n rfl (ck_get kk_Mo_best 34 rfl) ?_
                  refine wp_iload rfl (ck_get kk_Mo_best 35 rfl) ?_
                  refine wp_iload_n rfl (ck_get kk_Mo_best 36 rfl) ?_
                  refine wp_iload rfl (ck_get kk_Mo_best 37 rfl) ?_
                  refine wp_cV3i (ck_get kk_Mo_best 38 rfl) ml_Mo_456 (by omega) (Nat.le_of_ble_eq_true rfl) (by assumption) (Ci.to (m_missBy (c := vS (msN (sWo (zS z))) t l) (by exact hM) (by omega) (by omega) (by omega) (by omega) (va _ (by omega)) (vb _ (by omega))) ?_)
                  rintro x M1 ⟨e1, e2⟩
                  rw [k1'] at e1
                  subst e1 e2
                  refine wp_aload_n rfl (ck_get kk_Mo_best 39 rfl) ?_
                  refine wp_iload rfl (ck_get kk_Mo_best 40 rfl) ?_
                  refine wp_iload_n rfl (ck_get kk_Mo_best 41 rfl) ?_
                  refine wp_cV2i (ck_get kk_Mo_best 42 rfl) ml_Mo_452 (by omega) (Nat.le_of_ble_eq_true rfl) (by assumption) (Ci.to (m_fewAt (t := t) (l := l) (by exact hM) (by omega) (by omega)) ?_)
                  rintro x M1 ⟨e1, e2⟩
                  rw [vc] at e1
                  subst e1 e2
                  refine wp_icmp_eq (t := 80) (ck_get kk_Mo_best 43 rfl) (by decide) (fun hc71 => ?_) (fun hc71 => ?_)
                  · exact K _ rfl
                  · exact absurd rfl hc71
                | succ e ih =>
                  intro i h1
                  have b1 := hH i (by omega)
                  have b1' : bstH (msN (sWo (zS z))) t d l i = msN (sWo (zS z)) t i + (bstT (msN (sWo (zS z))) d (l - i)).2 := rfl
                  have k2' := k2 i (by show i < vS (msN (sWo (zS z))) t l; omega)
                  refine wp_aload_n rfl (ck_get kk_Mo_best 34 rfl) ?_
                  refine wp_iload rfl (ck_get kk_Mo_best 35 rfl) ?_
                  refine wp_iload_n rfl (ck_get kk_Mo_best 36 rfl) ?_
                  refine wp_iload rfl (ck_get kk_Mo_best 37 rfl) ?_
                  refine wp_cV3i (ck_get kk_Mo_best 38 rfl) ml_Mo_456 (by omega) (Nat.le_of_ble_eq_true rfl) (by assumption) (Ci.to (m_missBy (c := i) (by exact hM) (by omega) (by omega) (by omega) (by omega) (va _ (by omega)) (vb _ (by omega))) ?_)
                  rintro _ M1 ⟨rfl, eqm1⟩
                  obtain rfl := eqm1.symm
                  refine wp_aload_n rfl (ck_get kk_Mo_best 39 rfl) ?_
                  refine wp_iload rfl (ck_get kk_Mo_best 40 rfl) ?_
                  refine wp_iload_n rfl (ck_get kk_Mo_best 41 rfl) ?_
                  refine wp_cV2i (ck_get kk_Mo_best 42 rfl) ml_Mo_452 (by omega) (Nat.le_of_ble_eq_true rfl) (by assumption) (Ci.to (m_fewAt (t := t) (l := l) (by exact hM) (by omega) (by omega)) ?_)
                  rintro x M1 ⟨e1, e2⟩
                  rw [vc] at e1
                  subst e1 e2
                  first | refine wp_icmp_eqN (t := 80) (ck_get kk_Mo_best 43 rfl) (by decide) (by omega) (by omega) (fun hc71 => ?_) (fun hc71 => ?_) | refine wp_icmp_eq (t := 80) (ck_get kk_Mo_best 43 rfl) (by decide) (fun hc71 => ?_) (fun hc71 => ?_)
                  · omega
                  · first | refine wp_iincN (ck_get kk_Mo_best 44 rfl) rfl (by decide) rfl ?_ | refine wp_iinc (ck_get kk_Mo_best 44 rfl) rfl (by decide) rfl ?_
                    refine wp_goto (t := 55) (ck_get kk_Mo_best 45 rfl) (by decide) ?_
                    exact ih (i + 1) (by omega)
              have hlp : ∀ e t (x4 : Nat), t + e = j + 1 → (t = j + 1 → x4 = vS (msN (sWo (zS z))) j (lfT (msN (sWo (zS z))) k j)) → Wp g Y_Mo_best 300 46 [some (.ref 1020), some (.int (nI k)), some (.int (nI j)), some (.int (nI (lfT (msN (sWo (zS z))) k t))), some (.int (nI x4)), some (.int (nI t))] [] (mfM (frM M a2) f) (fun r M2 => ∃ x, r = some (.int x) ∧ x = nI (vS (msN (sWo (zS z))) j (lfT (msN (sWo (zS z))) k j)) ∧ MR z M2 ∧ CSame M M2) := by
                intro e
                induction e with
                | zero =>
                  intro t x4 h1 hx
                  obtain rfl := hx (by omega)
                  refine wp_iload rfl (ck_get kk_Mo_best 29 rfl) ?_
                  refine wp_iload_n rfl (ck_get kk_Mo_best 30 rfl) ?_
                  first | refine wp_icmp_gtN (t := 91) (ck_get kk_Mo_best 31 rfl) (by decide) (by omega) (by omega) (fun hc49 => ?_) (fun hc49 => ?_) | refine wp_icmp_gt (t := 91) (ck_get kk_Mo_best 31 rfl) (by decide) (fun hc49 => ?_) (fun hc49 => ?_)
                  · refine wp_iload rfl (ck_get kk_Mo_best 52 rfl) ?_
                    refine wp_ireturn (ck_get kk_Mo_best 53 rfl) rfl rfl ⟨_, rfl, ?_⟩
                    exact ⟨rfl, h.fr, CSame.fr⟩
                  · omega
                | succ e ih =>
                  intro t x4 h1 hx
                  have hll := lfT_le (m := msN (sWo (zS z))) (z := k) t
                  have hb1 : vS (msN (sWo (zS z))) t (lfT (msN (sWo (zS z))) k t) ≤ min 24 (lfT (msN (sWo (zS z))) k t) := bst_1
                  refine wp_iload rfl (ck_get kk_Mo_best 29 rfl) ?_
                  refine wp_iload_n rfl (ck_get kk_Mo_best 30 rfl) ?_
                  first | refine wp_icmp_gtN (t := 91) (ck_get kk_Mo_best 31 rfl) (by decide) (by omega) (by omega) (fun hc49 => ?_) (fun hc49 => ?_) | refine wp_icmp_gt (t := 91) (ck_get kk_Mo_best 31 rfl) (by decide) (fun hc49 => ?_) (fun hc49 => ?_)
                  · omega
                  · refine wp_iconst (v := nI 0) (by decide) (ck_get kk_Mo_best 32 rfl) ?_
                    refine wp_istore (ck_get kk_Mo_best 33 rfl) (by decide) rfl ?_
                    refine hwh t (3 - t) _ (by omega) hll (fun x4 hx4 => ?_) _ 0 (Nat.zero_add _)
                    subst hx4
                    refine wp_iload_n rfl (ck_get kk_Mo_best 46 rfl) ?_
                    refine wp_iload rfl (ck_get kk_Mo_best 47 rfl) ?_
                    first | refine wp_isubN (ck_get kk_Mo_best 48 rfl) (by omega) ?_ | refine wp_isub (ck_get kk_Mo_best 48 rfl) ?_
                    refine wp_istore_n (ck_get kk_Mo_best 49 rfl) (by decide) rfl ?_
                    first | refine wp_iincN (ck_get kk_Mo_best 50 rfl) rfl (by decide) rfl ?_ | refine wp_iinc (ck_get kk_Mo_best 50 rfl) rfl (by decide) rfl ?_
                    refine wp_goto (t := 46) (ck_get kk_Mo_best 51 rfl) (by decide) ?_
                    refine ih (t + 1) _ (by omega) (fun e => ?_)
                    obtain rfl : t = j := by omega
                    rfl
              exact hlp (j + 1) 0 0 (by omega) (fun e => by omega)
            · exact absurd (by assumption) (nI_ne1 (by omega))
          · exact absurd hc16 (by decide)
  · have hno : inB a 49 = false → ∀ (q1 : ¬ a < nI 0) (q2 : ¬ nI 48 < a), False := fun q0 q1 q2 => by
      rcases i32c a 49 (by omega) with ⟨k, hk, rfl⟩ | e
      · rw [inB_nI hk (by omega)] at q0; cases q0
      · exact i32o e 0 48 rfl (by omega) (by omega) q1 q2
    refine ⟨-1, z, hO.le (by omega), fun M h => ?_, fun M h => ?_⟩
    · have hCR := h
      have hC' := h.le (Nat.le_succ c)
      obtain ⟨pf, pg, hL, hSC, hTC, hIC, hDC, hPC, hNC, hBC, hZC⟩ := h
      obtain ⟨t0, ⟨r00, hSh⟩, ⟨r01, hTr⟩, ⟨r02, hTg⟩, ⟨r03, hWa⟩, ⟨r04, hWp⟩, ⟨r06, t921, r921a, r921b, hS0, hS1⟩, ⟨r07, t922⟩, ⟨r08, t923⟩, ⟨r010, hPa⟩, ⟨r011, hJu⟩, ⟨r012, hRe⟩, ⟨r013, hCu⟩, ⟨r014, hDe⟩, ⟨r018, t959⟩, hPf⟩ := id hL
      have t1 : mT M 1 = (6, 0) := hSh.1
      have r10 : mR M 1 0 = some 2 := hSh.2.1
      have hW2 : WoAt (mT M) (mR M) 2 := hSh.2.2.1
      have t2 : mT M 2 = (9, 0) := hW2.1
      have r20 : mR M 2 0 = some 3 := hW2.2.1
      have t3 : mT M 3 = (24, 4) := hW2.2.2.1
      have t31 : mT M 31 = (8, 0) := hTr.1
      have t924 : mT M 924 = (3, 0) := hPa.1
      have t934 : mT M 934 = (2, 0) := hJu.1
      have t938 : mT M 938 = (5, 0) := hRe.1
      have t947 : mT M 947 = (0, 0) := hCu.1
      have t952 : mT M 952 = (1, 0) := hDe.1
      refine cw_entry 1 pf_Mc_best rfl ?_
      refine wp_iload_n rfl (ck_get kk_Mc_best 0 rfl) ?_
      refine wp_iconst (v := (-1)) (by decide) (ck_get kk_Mc_best 1 rfl) ?_
      refine wp_icmp_eq (t := 12) (ck_get kk_Mc_best 2 rfl) (by decide) (fun hc2 => ?_) (fun hc2 => ?_)
      · have hna : inB a 49 = false := by
          cases q : inB a 49 with
          | false => rfl
          | true => exact absurd ⟨q, Or.inl hc2⟩ hin
        refine wp_iload_n rfl (ck_get kk_Mc_best 6 rfl) ?_
        refine wp_if_lt (t := 22) (ck_get kk_Mc_best 7 rfl) (by decide) (fun hc13 => ?_) (fun hc13 => ?_)
        · refine wp_iconst (v := (-1)) (by decide) (ck_get kk_Mc_best 11 rfl) ?_
          refine wp_ireturn (ck_get kk_Mc_best 12 rfl) rfl rfl ⟨_, rfl, ?_⟩
          exact ⟨rfl, hC', MSame.refl _⟩
        · refine wp_iload_n rfl (ck_get kk_Mc_best 8 rfl) ?_
          refine wp_bipush (v := nI 48) (by decide) (ck_get kk_Mc_best 9 rfl) ?_
          refine wp_icmp_le (t := 24) (ck_get kk_Mc_best 10 rfl) (by decide) (fun hc19 => ?_) (fun hc19 => ?_)
          · exact (hno hna hc13 (fun h => by have a := Int32.lt_iff_toInt_lt.mp h; have b := Int32.le_iff_toInt_le.mp hc19; omega)).elim
          · refine wp_iconst (v := (-1)) (by decide) (ck_get kk_Mc_best 11 rfl) ?_
            refine wp_ireturn (ck_get kk_Mc_best 12 rfl) rfl rfl ⟨_, rfl, ?_⟩
            exact ⟨rfl, hC', MSame.refl _⟩
      · refine wp_iload_n rfl (ck_get kk_Mc_best 3 rfl) ?_
        refine wp_cS1i (ck_get kk_Mc_best 4 rfl) ml_Mc_103 (by omega) (Nat.le_of_ble_eq_true rfl) (Ci.to (c_isTenant) ?_)
        rintro _ M1 ⟨rfl, eqm1⟩
        obtain rfl := eqm1.symm
        refine wp_if_eq (t := 22) (ck_get kk_Mc_best 5 rfl) (by decide) (fun hc9 => ?_) (fun hc9 => ?_)
        · refine wp_iconst (v := (-1)) (by decide) (ck_get kk_Mc_best 11 rfl) ?_
          refine wp_ireturn (ck_get kk_Mc_best 12 rfl) rfl rfl ⟨_, rfl, ?_⟩
          exact ⟨rfl, hC', MSame.refl _⟩
        · have hna : inB a 49 = false := by
            cases q : inB a 49 with
            | false => rfl
            | true =>
              cases q2 : inB b 4 with
              | false => rw [q2] at hc9; exact absurd rfl hc9
              | true => exact absurd ⟨q, Or.inr q2⟩ hin
          refine wp_iload_n rfl (ck_get kk_Mc_best 6 rfl) ?_
          refine wp_if_lt (t := 22) (ck_get kk_Mc_best 7 rfl) (by decide) (fun hc13 => ?_) (fun hc13 => ?_)
          · refine wp_iconst (v := (-1)) (by decide) (ck_get kk_Mc_best 11 rfl) ?_
            refine wp_ireturn (ck_get kk_Mc_best 12 rfl) rfl rfl ⟨_, rfl, ?_⟩
            exact ⟨rfl, hC', MSame.refl _⟩
          · refine wp_iload_n rfl (ck_get kk_Mc_best 8 rfl) ?_
            refine wp_bipush (v := nI 48) (by decide) (ck_get kk_Mc_best 9 rfl) ?_
            refine wp_icmp_le (t := 24) (ck_get kk_Mc_best 10 rfl) (by decide) (fun hc19 => ?_) (fun hc19 => ?_)
            · exact (hno hna hc13 (fun h => by have a := Int32.lt_iff_toInt_lt.mp h; have b := Int32.le_iff_toInt_le.mp hc19; omega)).elim
            · refine wp_iconst (v := (-1)) (by decide) (ck_get kk_Mc_best 11 rfl) ?_
              refine wp_ireturn (ck_get kk_Mc_best 12 rfl) rfl rfl ⟨_, rfl, ?_⟩
              exact ⟨rfl, hC', MSame.refl _⟩
    · skip
      obtain ⟨hM, hSM, hUM, hIM, hDM, hPM, hNM, hBM⟩ := id h
      have to0 := hM.1
      refine cw_entry 3 pf_Mo_best rfl ?_
      refine wp_iload_n rfl (ck_get kk_Mo_best 0 rfl) ?_
      refine wp_iconst (v := nI 0) (by decide) (ck_get kk_Mo_best 1 rfl) ?_
      refine wp_bipush (v := nI 48) (by decide) (ck_get kk_Mo_best 2 rfl) ?_
      refine wp_cS3i (ck_get kk_Mo_best 3 rfl) ml_Mo_18 (by omega) (Nat.le_of_ble_eq_true rfl) (Ci.to (m_lies (by omega)) ?_)
      rintro _ M1 ⟨rfl, eqm1⟩
      obtain rfl := eqm1.symm
      refine wp_if_eq (t := 19) (ck_get kk_Mo_best 4 rfl) (by decide) (fun hc7 => ?_) (fun hc7 => ?_)
      · refine wp_iconst (v := (-1)) (by decide) (ck_get kk_Mo_best 10 rfl) ?_
        refine wp_ireturn (ck_get kk_Mo_best 11 rfl) rfl rfl ⟨_, rfl, ?_⟩
        exact ⟨rfl, h, CSame.refl _⟩
      · refine wp_iload_n rfl (ck_get kk_Mo_best 5 rfl) ?_
        refine wp_iconst (v := (-1)) (by decide) (ck_get kk_Mo_best 6 rfl) ?_
        refine wp_iconst (v := nI 3) (by decide) (ck_get kk_Mo_best 7 rfl) ?_
        refine wp_cS3i (ck_get kk_Mo_best 8 rfl) ml_Mo_18 (by omega) (Nat.le_of_ble_eq_true rfl) (Ci.to (m_liesG) ?_)
        rintro _ M1 ⟨rfl, eqm1⟩
        obtain rfl := eqm1.symm
        refine wp_if_ne (t := 21) (ck_get kk_Mo_best 9 rfl) (by decide) (fun hc16 => ?_) (fun hc16 => ?_)
        · exfalso
          refine hin ⟨?_, ?_⟩
          · cases q : inB a 49 with
            | true => rfl
            | false => rw [q] at hc7; exact absurd rfl hc7
          · cases q : decide ((-1 : Int32) ≤ b ∧ b ≤ nI 3) with
            | false => rw [q] at hc16; exact absurd rfl hc16
            | true =>
              have q3 := of_decide_eq_true q
              have q1 := Int32.le_iff_toInt_le.mp q3.1
              have q2 := Int32.le_iff_toInt_le.mp q3.2
              rw [nI_toInt (by omega)] at q2
              have m1 : (-1 : Int32).toInt = -1 := by decide
              rcases i32c b 4 (by omega) with ⟨k, hk, rfl⟩ | ⟨-, e⟩
              · exact Or.inr (inB_nI hk (by omega))
              · exact Or.inl (Int32.toInt_inj.mp (by omega))
        · refine wp_iconst (v := (-1)) (by decide) (ck_get kk_Mo_best 10 rfl) ?_
          refine wp_ireturn (ck_get kk_Mo_best 11 rfl) rfl rfl ⟨_, rfl, ?_⟩
          exact ⟨rfl, h, CSame.refl _⟩
end BEW
