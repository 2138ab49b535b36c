/-! ===== calls that tell what stands ===== -/
section GET
variable {g : Gl}
theorem b_status : Both g Y_Mc_status Y_Mo_status [] := by
  intro c z hc hO
  refine ⟨zC z, z, hO.le (by omega), fun M h => ?_, fun M h => ?_⟩
  · skip
    have hC' := h.le (Nat.le_succ c)
    obtain ⟨pf, pg, hL, hSC, hTC, hIC, hDC, hPC, hNC, hBC, hZC⟩ := h
    obtain ⟨t0, ⟨r00, hSh⟩, ⟨r01, hTr⟩, ⟨r02, hTg⟩, ⟨r03, hWa⟩, ⟨r04, hWp⟩, ⟨r06, t921, r921a, r921b, hS0, hS1⟩, ⟨r07, t922⟩, ⟨r08, t923⟩, ⟨r010, hPa⟩, ⟨r011, hJu⟩, ⟨r012, hRe⟩, ⟨r013, hCu⟩, ⟨r014, hDe⟩, ⟨r018, t959⟩, hPf⟩ := id hL
    have t1 : mT M 1 = (6, 0) := hSh.1
    have r10 : mR M 1 0 = some 2 := hSh.2.1
    have hW2 : WoAt (mT M) (mR M) 2 := hSh.2.2.1
    have t2 : mT M 2 = (9, 0) := hW2.1
    have r20 : mR M 2 0 = some 3 := hW2.2.1
    have t3 : mT M 3 = (24, 4) := hW2.2.2.1
    have t31 : mT M 31 = (8, 0) := hTr.1
    have t924 : mT M 924 = (3, 0) := hPa.1
    have t934 : mT M 934 = (2, 0) := hJu.1
    have t938 : mT M 938 = (5, 0) := hRe.1
    have t947 : mT M 947 = (0, 0) := hCu.1
    have t952 : mT M 952 = (1, 0) := hDe.1
    have e := hNC.2.2.1
    refine cw_entry 0 pf_Mc_status rfl ?_
    refine wp_aload_n rfl (ck_get kk_Mc_status 0 rfl) ?_
    first | refine wp_getIv (ck_get kk_Mc_status 1 rfl) fl_Mc_97 (by assumption) (by assumption) ?_ | refine wp_getI (ck_get kk_Mc_status 1 rfl) fl_Mc_97 (by assumption) ?_
    refine wp_ireturn (ck_get kk_Mc_status 2 rfl) rfl rfl ⟨_, rfl, ?_⟩
    exact ⟨rfl, hC', MSame.refl _⟩
  · skip
    obtain ⟨hM, hSM, hUM, hIM, hDM, hPM, hNM, hBM⟩ := id h
    have to0 := hM.1
    have e := hNM.2.2.1
    refine cw_entry 0 pf_Mo_status rfl ?_
    refine wp_aload_n rfl (ck_get kk_Mo_status 0 rfl) ?_
    first | refine wp_getIv (ck_get kk_Mo_status 1 rfl) fl_Mo_3 (by assumption) (by assumption) ?_ | refine wp_getI (ck_get kk_Mo_status 1 rfl) fl_Mo_3 (by assumption) ?_
    refine wp_ireturn (ck_get kk_Mo_status 2 rfl) rfl rfl ⟨_, rfl, ?_⟩
    exact ⟨rfl, h, CSame.refl _⟩
theorem b_blanks : Both g Y_Mc_blanks Y_Mo_blanks [] := by
  intro c z hc hO
  refine ⟨zB z, z, hO.le (by omega), fun M h => ?_, fun M h => ?_⟩
  · skip
    have hC' := h.le (Nat.le_succ c)
    obtain ⟨pf, pg, hL, hSC, hTC, hIC, hDC, hPC, hNC, hBC, hZC⟩ := h
    obtain ⟨t0, ⟨r00, hSh⟩, ⟨r01, hTr⟩, ⟨r02, hTg⟩, ⟨r03, hWa⟩, ⟨r04, hWp⟩, ⟨r06, t921, r921a, r921b, hS0, hS1⟩, ⟨r07, t922⟩, ⟨r08, t923⟩, ⟨r010, hPa⟩, ⟨r011, hJu⟩, ⟨r012, hRe⟩, ⟨r013, hCu⟩, ⟨r014, hDe⟩, ⟨r018, t959⟩, hPf⟩ := id hL
    have t1 : mT M 1 = (6, 0) := hSh.1
    have r10 : mR M 1 0 = some 2 := hSh.2.1
    have hW2 : WoAt (mT M) (mR M) 2 := hSh.2.2.1
    have t2 : mT M 2 = (9, 0) := hW2.1
    have r20 : mR M 2 0 = some 3 := hW2.2.1
    have t3 : mT M 3 = (24, 4) := hW2.2.2.1
    have t31 : mT M 31 = (8, 0) := hTr.1
    have t924 : mT M 924 = (3, 0) := hPa.1
    have t934 : mT M 934 = (2, 0) := hJu.1
    have t938 : mT M 938 = (5, 0) := hRe.1
    have t947 : mT M 947 = (0, 0) := hCu.1
    have t952 : mT M 952 = (1, 0) := hDe.1
    have e := hNC.1
    refine cw_entry 0 pf_Mc_blanks rfl ?_
    refine wp_aload_n rfl (ck_get kk_Mc_blanks 0 rfl) ?_
    first | refine wp_getIv (ck_get kk_Mc_blanks 1 rfl) fl_Mc_91 (by assumption) (by assumption) ?_ | refine wp_getI (ck_get kk_Mc_blanks 1 rfl) fl_Mc_91 (by assumption) ?_
    refine wp_ireturn (ck_get kk_Mc_blanks 2 rfl) rfl rfl ⟨_, rfl, ?_⟩
    exact ⟨rfl, hC', MSame.refl _⟩
  · skip
    obtain ⟨hM, hSM, hUM, hIM, hDM, hPM, hNM, hBM⟩ := id h
    have to0 := hM.1
    have e := hNM.1
    refine cw_entry 0 pf_Mo_blanks rfl ?_
    refine wp_aload_n rfl (ck_get kk_Mo_blanks 0 rfl) ?_
    first | refine wp_getIv (ck_get kk_Mo_blanks 1 rfl) fl_Mo_182 (by assumption) (by assumption) ?_ | refine wp_getI (ck_get kk_Mo_blanks 1 rfl) fl_Mo_182 (by assumption) ?_
    refine wp_ireturn (ck_get kk_Mo_blanks 2 rfl) rfl rfl ⟨_, rfl, ?_⟩
    exact ⟨rfl, h, CSame.refl _⟩
theorem b_stopped : Both g Y_Mc_stopped Y_Mo_stopped [] := by
  intro c z hc hO
  refine ⟨zP z, z, hO.le (by omega), fun M h => ?_, fun M h => ?_⟩
  · skip
    have hC' := h.le (Nat.le_succ c)
    obtain ⟨pf, pg, hL, hSC, hTC, hIC, hDC, hPC, hNC, hBC, hZC⟩ := h
    obtain ⟨t0, ⟨r00, hSh⟩, ⟨r01, hTr⟩, ⟨r02, hTg⟩, ⟨r03, hWa⟩, ⟨r04, hWp⟩, ⟨r06, t921, r921a, r921b, hS0, hS1⟩, ⟨r07, t922⟩, ⟨r08, t923⟩, ⟨r010, hPa⟩, ⟨r011, hJu⟩, ⟨r012, hRe⟩, ⟨r013, hCu⟩, ⟨r014, hDe⟩, ⟨r018, t959⟩, hPf⟩ := id hL
    have t1 : mT M 1 = (6, 0) := hSh.1
    have r10 : mR M 1 0 = some 2 := hSh.2.1
    have hW2 : WoAt (mT M) (mR M) 2 := hSh.2.2.1
    have t2 : mT M 2 = (9, 0) := hW2.1
    have r20 : mR M 2 0 = some 3 := hW2.2.1
    have t3 : mT M 3 = (24, 4) := hW2.2.2.1
    have t31 : mT M 31 = (8, 0) := hTr.1
    have t924 : mT M 924 = (3, 0) := hPa.1
    have t934 : mT M 934 = (2, 0) := hJu.1
    have t938 : mT M 938 = (5, 0) := hRe.1
    have t947 : mT M 947 = (0, 0) := hCu.1
    have t952 : mT M 952 = (1, 0) := hDe.1
    have e := hNC.2.1
    refine cw_entry 0 pf_Mc_stopped rfl ?_
    refine wp_aload_n rfl (ck_get kk_Mc_stopped 0 rfl) ?_
    first | refine wp_getIv (ck_get kk_Mc_stopped 1 rfl) fl_Mc_94 (by assumption) (by assumption) ?_ | refine wp_getI (ck_get kk_Mc_stopped 1 rfl) fl_Mc_94 (by assumption) ?_
    refine wp_ireturn (ck_get kk_Mc_stopped 2 rfl) rfl rfl ⟨_, rfl, ?_⟩
    exact ⟨rfl, hC', MSame.refl _⟩
  · skip
    obtain ⟨hM, hSM, hUM, hIM, hDM, hPM, hNM, hBM⟩ := id h
    have to0 := hM.1
    have e := hNM.2.1
    refine cw_entry 0 pf_Mo_stopped rfl ?_
    refine wp_aload_n rfl (ck_get kk_Mo_stopped 0 rfl) ?_
    first | refine wp_getIv (ck_get kk_Mo_stopped 1 rfl) fl_Mo_130 (by assumption) (by assumption) ?_ | refine wp_getI (ck_get kk_Mo_stopped 1 rfl) fl_Mo_130 (by assumption) ?_
    refine wp_ireturn (ck_get kk_Mo_stopped 2 rfl) rfl rfl ⟨_, rfl, ?_⟩
    exact ⟨rfl, h, CSame.refl _⟩
theorem b_fault : Both g Y_Mc_fault Y_Mo_fault [] := by
  intro c z hc hO
  refine ⟨zF z, z, hO.le (by omega), fun M h => ?_, fun M h => ?_⟩
  · skip
    have hC' := h.le (Nat.le_succ c)
    obtain ⟨pf, pg, hL, hSC, hTC, hIC, hDC, hPC, hNC, hBC, hZC⟩ := h
    obtain ⟨t0, ⟨r00, hSh⟩, ⟨r01, hTr⟩, ⟨r02, hTg⟩, ⟨r03, hWa⟩, ⟨r04, hWp⟩, ⟨r06, t921, r921a, r921b, hS0, hS1⟩, ⟨r07, t922⟩, ⟨r08, t923⟩, ⟨r010, hPa⟩, ⟨r011, hJu⟩, ⟨r012, hRe⟩, ⟨r013, hCu⟩, ⟨r014, hDe⟩, ⟨r018, t959⟩, hPf⟩ := id hL
    have t1 : mT M 1 = (6, 0) := hSh.1
    have r10 : mR M 1 0 = some 2 := hSh.2.1
    have hW2 : WoAt (mT M) (mR M) 2 := hSh.2.2.1
    have t2 : mT M 2 = (9, 0) := hW2.1
    have r20 : mR M 2 0 = some 3 := hW2.2.1
    have t3 : mT M 3 = (24, 4) := hW2.2.2.1
    have t31 : mT M 31 = (8, 0) := hTr.1
    have t924 : mT M 924 = (3, 0) := hPa.1
    have t934 : mT M 934 = (2, 0) := hJu.1
    have t938 : mT M 938 = (5, 0) := hRe.1
    have t947 : mT M 947 = (0, 0) := hCu.1
    have t952 : mT M 952 = (1, 0) := hDe.1
    have e := hNC.2.2.2.1
    refine cw_entry 0 pf_Mc_fault rfl ?_
    refine wp_aload_n rfl (ck_get kk_Mc_fault 0 rfl) ?_
    refine wp_getR (ck_get kk_Mc_fault 1 rfl) fl_Mc_59 (by assumption) (by assumption) ?_
    first | refine wp_getIv (ck_get kk_Mc_fault 2 rfl) fl_Mc_258 (by assumption) (by assumption) ?_ | refine wp_getI (ck_get kk_Mc_fault 2 rfl) fl_Mc_258 (by assumption) ?_
    refine wp_ireturn (ck_get kk_Mc_fault 3 rfl) rfl rfl ⟨_, rfl, ?_⟩
    exact ⟨rfl, hC', MSame.refl _⟩
  · skip
    obtain ⟨hM, hSM, hUM, hIM, hDM, hPM, hNM, hBM⟩ := id h
    have to0 := hM.1
    have e := hNM.2.2.2.1
    refine cw_entry 0 pf_Mo_fault rfl ?_
    refine wp_aload_n rfl (ck_get kk_Mo_fault 0 rfl) ?_
    first | refine wp_getIv (ck_get kk_Mo_fault 1 rfl) fl_Mo_61 (by assumption) (by assumption) ?_ | refine wp_getI (ck_get kk_Mo_fault 1 rfl) fl_Mo_61 (by assumption) ?_
    refine wp_ireturn (ck_get kk_Mo_fault 2 rfl) rfl rfl ⟨_, rfl, ?_⟩
    exact ⟨rfl, h, CSame.refl _⟩
/-- an int is a place of n, or none -/
theorem i32c (x : Int32) (n : Nat) (hn : n < 2147483648) : (∃ k, k < n ∧ x = nI k) ∨ (inB x n = false ∧ (x.toInt < 0 ∨ (n : Int) ≤ x.toInt)) := by
  rcases pk_ix x (n := n) (by omega) with h | h | h
  · refine Or.inr ⟨?_, Or.inl (Int32.lt_iff_toInt_lt.mp h)⟩
    unfold inB; rw [decide_eq_false (fun q => q h)]; rfl
  · have h2 := Int32.le_iff_toInt_le.mp h
    rw [nI_toInt (by omega)] at h2
    refine Or.inr ⟨?_, Or.inr h2⟩
    unfold inB; rw [decide_eq_false (p := x < nI n) (fun q => ?_)]; exact Bool.and_false _
    have := Int32.lt_iff_toInt_lt.mp q
    rw [nI_toInt (by omega)] at this
    omega
  · exact Or.inl h
theorem b_forget : Both g Y_Mc_forget Y_Mo_forget [] := by
  intro c z hc hO
  refine ⟨nI (sSn (zS z)), ((sWo (zS z), (zS z).2.1, (0, sSe (zS z)), (zS z).2.2.2), z.2), ?_, fun M h => ?_, fun M h => ?_⟩
  · obtain ⟨⟨o1, o2, o3, o4, o5, o6, o7, o8, o9⟩, oR⟩ := hO.le (Nat.le_succ c)
    exact ⟨⟨o1, o2, o3, o4, o5, o6, Nat.zero_le _, fun i hi => absurd hi (Nat.not_lt_zero i), o9⟩, oR⟩
  · have hCR := h
    have hC' := h.le (Nat.le_succ c)
    obtain ⟨pf, pg, hL, hSC, hTC, hIC, hDC, hPC, hNC, hBC, hZC⟩ := h
    obtain ⟨t0, ⟨r00, hSh⟩, ⟨r01, hTr⟩, ⟨r02, hTg⟩, ⟨r03, hWa⟩, ⟨r04, hWp⟩, ⟨r06, t921, r921a, r921b, hS0, hS1⟩, ⟨r07, t922⟩, ⟨r08, t923⟩, ⟨r010, hPa⟩, ⟨r011, hJu⟩, ⟨r012, hRe⟩, ⟨r013, hCu⟩, ⟨r014, hDe⟩, ⟨r018, t959⟩, hPf⟩ := id hL
    have t1 : mT M 1 = (6, 0) := hSh.1
    have r10 : mR M 1 0 = some 2 := hSh.2.1
    have hW2 : WoAt (mT M) (mR M) 2 := hSh.2.2.1
    have t2 : mT M 2 = (9, 0) := hW2.1
    have r20 : mR M 2 0 = some 3 := hW2.2.1
    have t3 : mT M 3 = (24, 4) := hW2.2.2.1
    have t31 : mT M 31 = (8, 0) := hTr.1
    have t924 : mT M 924 = (3, 0) := hPa.1
    have t934 : mT M 934 = (2, 0) := hJu.1
    have t938 : mT M 938 = (5, 0) := hRe.1
    have t947 : mT M 947 = (0, 0) := hCu.1
    have t952 : mT M 952 = (1, 0) := hDe.1
    have e : mI M 1 7 = nI (sSn (zS z)) := hSC.2.2.2.2.2.1
    refine cw_entry 1 pf_Mc_forget rfl ?_
    refine wp_aload_n rfl (ck_get kk_Mc_forget 0 rfl) ?_
    refine wp_getR (ck_get kk_Mc_forget 1 rfl) fl_Mc_12 (by assumption) (by assumption) ?_
    first | refine wp_getIv (ck_get kk_Mc_forget 2 rfl) fl_Mc_191 (by assumption) (by assumption) ?_ | refine wp_getI (ck_get kk_Mc_forget 2 rfl) fl_Mc_191 (by assumption) ?_
    refine wp_istore_n (ck_get kk_Mc_forget 3 rfl) (by decide) rfl ?_
    refine wp_aload_n rfl (ck_get kk_Mc_forget 4 rfl) ?_
    refine wp_getR (ck_get kk_Mc_forget 5 rfl) fl_Mc_12 (by assumption) (by assumption) ?_
    refine wp_iconst (v := nI 0) (by decide) (ck_get kk_Mc_forget 6 rfl) ?_
    refine wp_putI (ck_get kk_Mc_forget 7 rfl) fl_Mc_191 (by decide +kernel) (by assumption) (okI_int _) ?_
    refine wp_iload_n rfl (ck_get kk_Mc_forget 8 rfl) ?_
    refine wp_ireturn (ck_get kk_Mc_forget 9 rfl) rfl rfl ⟨_, rfl, ?_⟩
    refine ⟨rfl, ?_, MSame.mk2 (fun x q1 q2 => ⟨up2_o (by omega), rfl⟩)⟩
    obtain ⟨s1, s2, s3, s4, s5, s6, s7, s8, s9, s10, s11⟩ := hSC
    have eI : ∀ x, x ≠ 1 → up2 (mI M) 1 7 (nI 0) x = mI M x ∧ mJ M x = mJ M x := fun x hx => ⟨up2_o hx, rfl⟩
    have hk : HiK (mT M) (mR M) (mI M) (mT M) (mR M) (up2 (mI M) 1 7 (nI 0)) := HiK.same (fun x hx => up2_o (by omega))
    refine hCR.shop (fun x _ q => eI x (by omega)) ⟨s1.kept (fun x q1 q2 => eI x (by omega)), by rw [up2_k (by omega)]; exact s2, by rw [up2_k (by omega)]; exact s3, by rw [up2_k (by omega)]; exact s4, by rw [up2_k (by omega)]; exact s5, up2_v, fun i hi => absurd hi (Nat.not_lt_zero i), by rw [up2_k (by omega)]; exact s8, by rw [up2_k (by omega)]; exact s9, s10.kept rfl hk, fun i hi => ?_⟩
    obtain ⟨p, q1, q2⟩ := s11 i hi
    exact ⟨p, q1, q2.kept hk⟩
  · skip
    obtain ⟨hM, hSM, hUM, hIM, hDM, hPM, hNM, hBM⟩ := id h
    have to0 := hM.1
    have rfkept := MoAt.r hM 1 rfl
    have tfkept := MoAt.t hM 1 rfl
    have e : mI M (1020 + 2) 385 = nI (sSn (zS z)) := hSM.2.2.2.2.2.2.1
    refine cw_entry 1 pf_Mo_forget rfl ?_
    refine wp_aload_n rfl (ck_get kk_Mo_forget 0 rfl) ?_
    refine wp_getR (ck_get kk_Mo_forget 1 rfl) fl_Mo_28 (by assumption) (by assumption) ?_
    refine wp_sipush (v := nI 385) (by decide) (ck_get kk_Mo_forget 2 rfl) ?_
    refine wp_ialdv (v := nI (sSn (zS z))) (ck_get kk_Mo_forget 3 rfl) (by assumption) (ixk_nI (k := 385) (by omega) (by omega)) (e) ?_
    refine wp_istore_n (ck_get kk_Mo_forget 4 rfl) (by decide) rfl ?_
    refine wp_aload_n rfl (ck_get kk_Mo_forget 5 rfl) ?_
    refine wp_getR (ck_get kk_Mo_forget 6 rfl) fl_Mo_28 (by assumption) (by assumption) ?_
    refine wp_sipush (v := nI 385) (by decide) (ck_get kk_Mo_forget 7 rfl) ?_
    refine wp_iconst (v := nI 0) (by decide) (ck_get kk_Mo_forget 8 rfl) ?_
    refine wp_iast (ck_get kk_Mo_forget 9 rfl) (by assumption) (ixk_nI (k := 385) (by omega) (by omega)) ?_
    refine wp_iload_n rfl (ck_get kk_Mo_forget 10 rfl) ?_
    refine wp_ireturn (ck_get kk_Mo_forget 11 rfl) rfl rfl ⟨_, rfl, ?_⟩
    refine ⟨rfl, ?_, CSame.mk2 (fun x q1 => ⟨up2_o (by omega), rfl⟩)⟩
    obtain ⟨s1, s2, s3, s4, s5, s6, s7, s8, s9, s10⟩ := hSM
    have eK : ∀ y, y ≠ 385 → up2 (mI M) (1020 + 2) 385 (nI 0) 1022 y = mI M 1022 y := fun y hy => up2_k hy
    exact h.shop (fun x q => up2_o (by unfold moK at q; omega)) (fun x _ => rfl) (fun k _ => by rw [up2_o (by omega)]) (by rw [up2_o (by omega)]; exact hNM.2.2.2.2.1) ⟨s1.kept hO.1.1 (fun x q1 q2 => eK x (by omega)) (fun x q1 q2 => rfl), by rw [eK _ (by omega)]; exact s2, fun i hi => absurd hi (Nat.not_lt_zero i), by rw [eK _ (by omega)]; exact s4, by rw [eK _ (by omega)]; exact s5, by rw [eK _ (by omega)]; exact s6, up2_v, by rw [eK _ (by omega)]; exact s8, by rw [eK _ (by omega)]; exact s9, fun i hi => (s10 i hi).kept (Nat.lt_of_lt_of_le hi (Nat.le_trans hO.1.2.2.2.2.2.2.2.2.1 (by omega))) (fun x q => eK x (by omega)) rfl⟩
end GET
