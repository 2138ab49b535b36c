/-! ===== policy ===== -/
section POM
variable {g : Gl} {M : Mem}
def zTp (z : ST) (s : SH) (f : Int32) : ST := (s, zU z, zI z, zD z, (0, (zT z).2), (zB z, zP z, zC z, f), zR z, zG z)
theorem ZOK.tp {c : Nat} {z : ST} {s : SH} {f : Int32} (h : ZOK c z) (hs : SHOK s (bC c)) : ZOK c (zTp z s f) := ⟨hs, h.2.1, h.2.2.1, Nat.zero_le _, h.2.2.2.2⟩
def polS (s : SH) (k : Nat) : SH := (s.1, (k, sLo s, sMd s, sSl s), s.2.2)
theorem plF_3 {tc : Nat → Nat} {en : Nat → Bool} : (∃ k, k < 5 ∧ 24 ≤ tc 0 ∧ tc 0 = 24 + k ∧ en 1 = true ∧ plF tc en = (true, k)) ∨ (24 ≤ tc 0 ∧ tc 0 ≤ 28 ∧ en 1 = false ∧ plF tc en = (false, 1)) ∨ (¬ (24 ≤ tc 0 ∧ tc 0 ≤ 28) ∧ plF tc en = (false, 0)) := by
  unfold plF
  by_cases c : 24 ≤ tc 0 ∧ tc 0 ≤ 28
  · rw [if_pos c]
    by_cases e : en 1 = true
    · rw [if_pos e]
      exact Or.inl ⟨tc 0 - 24, by omega, c.1, by omega, e, rfl⟩
    · rw [if_neg e]
      exact Or.inr (Or.inl ⟨c.1, c.2, by simpa using e, rfl⟩)
  · rw [if_neg c]
    exact Or.inr (Or.inr ⟨c, rfl⟩)
/-- the class: named, or not -/
theorem c_policyT {c : Nat} {z : ST} (hS : OutOK g) (h : CR c z M) (hO : ZOK c z) (hc : c < 512) {k : Nat} (hk : k < 5) (hp : plF (tC (zT z).2 (zT z).1) (enT (zT z).2 (zT z).1) = (true, k)) : CaC g Y_Mc_policy [] c M (nI k) (zGood (zTp z (polS (zS z) k) (-1))) := by
  have hCR := h
  have hC' := h.le (Nat.le_succ c)
  obtain ⟨pf, pg, hL, hSC, hTC, hIC, hDC, hPC, hNC, hBC, hZC⟩ := h
  obtain ⟨t0, ⟨r00, hSh⟩, ⟨r01, hTr⟩, ⟨r02, hTg⟩, ⟨r03, hWa⟩, ⟨r04, hWp⟩, ⟨r06, t921, r921a, r921b, hS0, hS1⟩, ⟨r07, t922⟩, ⟨r08, t923⟩, ⟨r010, hPa⟩, ⟨r011, hJu⟩, ⟨r012, hRe⟩, ⟨r013, hCu⟩, ⟨r014, hDe⟩, ⟨r018, t959⟩, hPf⟩ := id hL
  have t1 : mT M 1 = (6, 0) := hSh.1
  have r10 : mR M 1 0 = some 2 := hSh.2.1
  have hW2 : WoAt (mT M) (mR M) 2 := hSh.2.2.1
  have t2 : mT M 2 = (9, 0) := hW2.1
  have r20 : mR M 2 0 = some 3 := hW2.2.1
  have t3 : mT M 3 = (24, 4) := hW2.2.2.1
  have t31 : mT M 31 = (8, 0) := hTr.1
  have t924 : mT M 924 = (3, 0) := hPa.1
  have t934 : mT M 934 = (2, 0) := hJu.1
  have t938 : mT M 938 = (5, 0) := hRe.1
  have t947 : mT M 947 = (0, 0) := hCu.1
  have t952 : mT M 952 = (1, 0) := hDe.1
  have e9 := hPC.1
  have h400 := hO.2.2.2.1
  refine cw_entry 1 pf_Mc_policy rfl ?_
  refine wp_aload_n rfl (ck_get kk_Mc_policy 0 rfl) ?_
  refine wp_getR (ck_get kk_Mc_policy 1 rfl) fl_Mc_59 (by assumption) (by assumption) ?_
  refine wp_aload_n rfl (ck_get kk_Mc_policy 2 rfl) ?_
  refine wp_getR (ck_get kk_Mc_policy 3 rfl) fl_Mc_48 (by assumption) (by assumption) ?_
  refine wp_aload_n rfl (ck_get kk_Mc_policy 4 rfl) ?_
  first | refine wp_getIv (ck_get kk_Mc_policy 5 rfl) fl_Mc_52 (by assumption) (by assumption) ?_ | refine wp_getI (ck_get kk_Mc_policy 5 rfl) fl_Mc_52 (by assumption) ?_
  refine wp_cV2i (ck_get kk_Mc_policy 6 rfl) ml_Mc_208 (by omega) (Nat.le_of_ble_eq_true rfl) (by assumption) (Ci.to (c_namedPolicy (bt := (zT z).2) hS hPa h400 hPC.2 hO.2.2.2.2.1) ?_)
  rintro x M1 ⟨I2, e1, e2, e3⟩
  subst e1
  obtain ⟨k2, -, q1, rfl, q3⟩ | ⟨j, q1, -, -⟩ := e3
  · obtain rfl : k2 = k := by rw [hp] at q1; exact (Prod.mk.inj q1).2.symm
    have hR : ∀ x y, ¬ (x = 924 ∧ y = 2) → up2 (mR M) 924 2 (some 923) x y = mR M x y := fun x y q => by
      unfold up2; rw [if_neg q]
    have hL2 : LayC (mT M) (up2 (mR M) 924 2 (some 923)) pf pg := hL.kk (fun _ _ => rfl) (fun x _ _ _ _ _ y hy => hR x y (fun q => hy q.1 q.2))
    have r0 : up2 (mR M) 924 2 (some 923) 0 0 = some 1 := (hR 0 0 (by omega)).trans r00
    refine wp_istore_n (ck_get kk_Mc_policy 7 rfl) (by decide) rfl ?_
    refine wp_aload_n rfl (ck_get kk_Mc_policy 8 rfl) ?_
    refine wp_iconst (v := nI 0) (by decide) (ck_get kk_Mc_policy 9 rfl) ?_
    refine wp_putI (ck_get kk_Mc_policy 10 rfl) fl_Mc_52 (by decide +kernel) (by assumption) (okI_int _) ?_
    refine wp_iload_n rfl (ck_get kk_Mc_policy 11 rfl) ?_
    refine wp_iconst (v := (-1)) (by decide) (ck_get kk_Mc_policy 12 rfl) ?_
    refine wp_icmp_ne (t := 33) (ck_get kk_Mc_policy 13 rfl) (by decide) (fun hc23 => ?_) (fun hc23 => ?_)
    · refine wp_aload_n rfl (ck_get kk_Mc_policy 18 rfl) ?_
      refine wp_getR (ck_get kk_Mc_policy 19 rfl) fl_Mc_12 (by assumption) (by assumption) ?_
      refine wp_iload_n rfl (ck_get kk_Mc_policy 20 rfl) ?_
      refine wp_putI (ck_get kk_Mc_policy 21 rfl) fl_Mc_188 (by decide +kernel) (by assumption) (okI_int _) ?_
      refine wp_aload_n rfl (ck_get kk_Mc_policy 22 rfl) ?_
      refine wp_iload_n rfl (ck_get kk_Mc_policy 23 rfl) ?_
      refine wp_cV1i (ck_get kk_Mc_policy 24 rfl) ml_Mc_185 (by omega) (Nat.le_of_ble_eq_true rfl) (by assumption) (Ci.to (c_accept (pf := pf) (pg := pg) (by exact hL2)) ?_)
      rintro x M1 ⟨e4, e5⟩
      refine wp_ireturn (ck_get kk_Mc_policy 25 rfl) rfl rfl ⟨_, rfl, ?_⟩
      rw [e5]
      generalize hI9 : up2 (up2 I2 0 9 (nI 0)) 1 1 (nI k2) = I9
      have f1 : ∀ y, y ≠ 1 → I9 1 y = mI M 1 y := fun y hy => by rw [← hI9, up2_k hy, up2_o (by omega), e2 1 (by omega)]
      have fx : ∀ x, x ≠ 0 → x ≠ 1 → I9 x = I2 x := fun x a b => by rw [← hI9, up2_o b, up2_o a]
      have f0 : ∀ y, y ≠ 9 → I9 0 y = mI M 0 y := fun y hy => by rw [← hI9, up2_o (by omega), up2_k hy, e2 0 (by omega)]
      have f09 : I9 0 9 = nI 0 := by rw [← hI9, up2_o (by omega), up2_v]
      have hk2 : HiK (mT M) (mR M) (mI M) (mT M) (up2 (mR M) 924 2 (some 923)) I9 := fun x hx _ => ⟨rfl, funext fun y => hR x y (by omega), by rw [fx x (by omega) (by omega), e2 x (by omega)]⟩
      have hS2 : ShC (mT M) (up2 (mR M) 924 2 (some 923)) I9 (mJ M) 1 (polS (zS z) k2) := by
        obtain ⟨s1, s2, s3, s4, s5, s6, s7, s8, s9, s10, s11⟩ := hSC
        have h30 : up2 (mR M) 924 2 (some 923) (1 + 29) = mR M (1 + 29) := funext fun y => hR 30 y (by omega)
        refine ⟨s1.kept (fun x q1 q2 => ⟨by rw [fx x (by omega) (by omega), e2 x (by omega)], rfl⟩), by rw [← hI9, up2_v]; rfl, by rw [f1 _ (by omega)]; exact s3, by rw [f1 _ (by omega)]; exact s4, by rw [f1 _ (by omega)]; exact s5, by rw [f1 _ (by omega)]; exact s6, fun i hi => by rw [fx _ (by omega) (by omega), fx _ (by omega) (by omega), e2 _ (by omega), e2 _ (by omega)]; exact s7 i hi, by rw [f1 _ (by omega)]; exact s8, by rw [f1 _ (by omega)]; exact s9, s10.kept h30 hk2, fun i hi => ?_⟩
        obtain ⟨p, q1, q2⟩ := s11 i hi
        exact ⟨p, by rw [h30]; exact q1, q2.kept hk2⟩
      have hG := hCR.gen (L2 := 0) (b := zB z) (p := zP z) (cd := zC z) (f := -1) (R2 := up2 (mR M) 924 2 (some 923)) (I2 := I9) (J2 := mJ M) hR (fun x q1 q2 q3 q4 => ⟨by rw [fx x q2 (by omega), e2 x (by unfold scX at q1; omega)], rfl⟩) (f0 5 (by omega)) f09 ((f0 15 (by omega)).trans hNC.1) ((f0 16 (by omega)).trans hNC.2.1) ((f0 17 (by omega)).trans hNC.2.2.1) (by rw [fx 924 (by omega) (by omega)]; exact q3) hS2
      have eM : sI (sI (mk5 M I2 (mJ M) (up2 (mR M) 924 2 (some 923))) 0 9 (nI 0)) 1 1 (nI k2) = mk5 M I9 (mJ M) (up2 (mR M) 924 2 (some 923)) := by rw [← hI9]
      have hms : MSame M (mk5 M I9 (mJ M) (up2 (mR M) 924 2 (some 923))) := fun x a b => ⟨rfl, funext fun y => hR x y (by omega), by
        show I9 x = _
        rw [fx x (by omega) (by omega), e2 x (by omega)], rfl⟩
      exact ⟨e4, by rw [eM]; exact hG.good, by rw [eM]; exact hms.trans MSame.ac⟩
    · exact absurd hc23 (nI_ne1 (by omega))
  · rw [hp] at q1; cases q1
theorem c_policyF {c : Nat} {z : ST} (hS : OutOK g) (h : CR c z M) (hO : ZOK c z) (hc : c < 512) {j : Nat} (hp : plF (tC (zT z).2 (zT z).1) (enT (zT z).2 (zT z).1) = (false, j)) : CaC g Y_Mc_policy [] c M (-6) (zBad (zTp z (zS z) (nI (tS (zT z).2 (zT z).1 j))) 6) := by
  have hCR := h
  have hC' := h.le (Nat.le_succ c)
  obtain ⟨pf, pg, hL, hSC, hTC, hIC, hDC, hPC, hNC, hBC, hZC⟩ := h
  obtain ⟨t0, ⟨r00, hSh⟩, ⟨r01, hTr⟩, ⟨r02, hTg⟩, ⟨r03, hWa⟩, ⟨r04, hWp⟩, ⟨r06, t921, r921a, r921b, hS0, hS1⟩, ⟨r07, t922⟩, ⟨r08, t923⟩, ⟨r010, hPa⟩, ⟨r011, hJu⟩, ⟨r012, hRe⟩, ⟨r013, hCu⟩, ⟨r014, hDe⟩, ⟨r018, t959⟩, hPf⟩ := id hL
  have t1 : mT M 1 = (6, 0) := hSh.1
  have r10 : mR M 1 0 = some 2 := hSh.2.1
  have hW2 : WoAt (mT M) (mR M) 2 := hSh.2.2.1
  have t2 : mT M 2 = (9, 0) := hW2.1
  have r20 : mR M 2 0 = some 3 := hW2.2.1
  have t3 : mT M 3 = (24, 4) := hW2.2.2.1
  have t31 : mT M 31 = (8, 0) := hTr.1
  have t924 : mT M 924 = (3, 0) := hPa.1
  have t934 : mT M 934 = (2, 0) := hJu.1
  have t938 : mT M 938 = (5, 0) := hRe.1
  have t947 : mT M 947 = (0, 0) := hCu.1
  have t952 : mT M 952 = (1, 0) := hDe.1
  have e9 := hPC.1
  have h400 := hO.2.2.2.1
  refine cw_entry 1 pf_Mc_policy rfl ?_
  refine wp_aload_n rfl (ck_get kk_Mc_policy 0 rfl) ?_
  refine wp_getR (ck_get kk_Mc_policy 1 rfl) fl_Mc_59 (by assumption) (by assumption) ?_
  refine wp_aload_n rfl (ck_get kk_Mc_policy 2 rfl) ?_
  refine wp_getR (ck_get kk_Mc_policy 3 rfl) fl_Mc_48 (by assumption) (by assumption) ?_
  refine wp_aload_n rfl (ck_get kk_Mc_policy 4 rfl) ?_
  first | refine wp_getIv (ck_get kk_Mc_policy 5 rfl) fl_Mc_52 (by assumption) (by assumption) ?_ | refine wp_getI (ck_get kk_Mc_policy 5 rfl) fl_Mc_52 (by assumption) ?_
  refine wp_cV2i (ck_get kk_Mc_policy 6 rfl) ml_Mc_208 (by omega) (Nat.le_of_ble_eq_true rfl) (by assumption) (Ci.to (c_namedPolicy (bt := (zT z).2) hS hPa h400 hPC.2 hO.2.2.2.2.1) ?_)
  rintro x M1 ⟨I2, e1, e2, e3⟩
  subst e1
  obtain ⟨k2, -, q1, -, -⟩ | ⟨j2, q1, rfl, q3⟩ := e3
  · rw [hp] at q1; cases q1
  · obtain rfl : j2 = j := by rw [hp] at q1; exact (Prod.mk.inj q1).2.symm
    have hR : ∀ x y, ¬ (x = 924 ∧ y = 2) → up2 (mR M) 924 2 (some 923) x y = mR M x y := fun x y q => by
      unfold up2; rw [if_neg q]
    have hL2 : LayC (mT M) (up2 (mR M) 924 2 (some 923)) pf pg := hL.kk (fun _ _ => rfl) (fun x _ _ _ _ _ y hy => hR x y (fun q => hy q.1 q.2))
    refine wp_istore_n (ck_get kk_Mc_policy 7 rfl) (by decide) rfl ?_
    refine wp_aload_n rfl (ck_get kk_Mc_policy 8 rfl) ?_
    refine wp_iconst (v := nI 0) (by decide) (ck_get kk_Mc_policy 9 rfl) ?_
    refine wp_putI (ck_get kk_Mc_policy 10 rfl) fl_Mc_52 (by decide +kernel) (by assumption) (okI_int _) ?_
    refine wp_iload_n rfl (ck_get kk_Mc_policy 11 rfl) ?_
    refine wp_iconst (v := (-1)) (by decide) (ck_get kk_Mc_policy 12 rfl) ?_
    refine wp_icmp_ne (t := 33) (ck_get kk_Mc_policy 13 rfl) (by decide) (fun hc23 => ?_) (fun hc23 => ?_)
    · exact absurd rfl hc23
    · refine wp_aload_n rfl (ck_get kk_Mc_policy 14 rfl) ?_
      refine wp_bipush (v := (-6)) (by decide) (ck_get kk_Mc_policy 15 rfl) ?_
      refine wp_cV1i (ck_get kk_Mc_policy 16 rfl) ml_Mc_172 (by omega) (Nat.le_of_ble_eq_true rfl) (by assumption) (Ci.to (c_refuse (k := 6) (pf := pf) (pg := pg) (by decide) (by omega) (by omega) (by exact hL2)) ?_)
      rintro x M1 ⟨e4, e5⟩
      refine wp_ireturn (ck_get kk_Mc_policy 17 rfl) rfl rfl ⟨_, rfl, ?_⟩
      rw [e5]
      have f0 : ∀ y, y ≠ 9 → up2 I2 0 9 (nI 0) 0 y = mI M 0 y := fun y hy => by rw [up2_k hy, e2 0 (by omega)]
      have fx : ∀ x, x ≠ 0 → x < 924 ∨ 933 ≤ x → up2 I2 0 9 (nI 0) x = mI M x := fun x a b => by rw [up2_o a, e2 x (by omega)]
      have hk2 : HiK (mT M) (mR M) (mI M) (mT M) (up2 (mR M) 924 2 (some 923)) (up2 I2 0 9 (nI 0)) := fun x hx _ => ⟨rfl, funext fun y => hR x y (by omega), fx x (by omega) (by omega)⟩
      have hS2 : ShC (mT M) (up2 (mR M) 924 2 (some 923)) (up2 I2 0 9 (nI 0)) (mJ M) 1 (zS z) := hSC.kept (fun x q1 q2 => ⟨fx x (by omega) (by omega), rfl⟩) (funext fun y => hR 30 y (by omega)) hk2
      have hG := hCR.gen (L2 := 0) (b := zB z) (p := zP z) (cd := zC z) (f := nI (tS (zT z).2 (zT z).1 j2)) (R2 := up2 (mR M) 924 2 (some 923)) (I2 := up2 I2 0 9 (nI 0)) (J2 := mJ M) hR (fun x q1 q2 q3 q4 => ⟨fx x q2 (by unfold scX at q1; omega), rfl⟩) (f0 5 (by omega)) up2_v ((f0 15 (by omega)).trans hNC.1) ((f0 16 (by omega)).trans hNC.2.1) ((f0 17 (by omega)).trans hNC.2.2.1) (by rw [up2_o (by omega)]; exact q3) hS2
      have hms : MSame M (mk5 M (up2 I2 0 9 (nI 0)) (mJ M) (up2 (mR M) 924 2 (some 923))) := fun x a b => ⟨rfl, funext fun y => hR x y (by omega), fx x (by omega) (by omega), rfl⟩
      exact ⟨e4, hG.bad (k := 6) (by omega), hms.trans MSame.bd⟩
end POM
section POB
variable {g : Gl} {M : Mem}
/-- the model's memory behind its tokens, at a token -/
abbrev plM (M : Mem) (N : Nat) (C V P : Nat → Int32) (i : Nat) (b : Int32) : Mem := sI (sI (sI (spM M 1020 N C V P) 1020 16 (nI 0)) 1020 22 (nI i)) 1020 24 b
theorem pl_x {N i x : Nat} {C V P : Nat → Int32} {b : Int32} (h : x ≠ 1020) (h2 : x ≠ 1032) (h3 : x ≠ 1033) (h4 : x ≠ 1034) : mI (plM M N C V P i b) x = mI M x := by
  show up2 (up2 (up2 (up1 (up1 (up1 (up1 (mI M) 1020 (up1 (mI M 1020) 21 (nI N))) (1020 + 12) C) (1020 + 13) V) (1020 + 14) P) 1020 16 (nI 0)) 1020 22 (nI i)) 1020 24 b x = _
  rw [up2_o h, up2_o h, up2_o h, up1_ne (by omega), up1_ne (by omega), up1_ne (by omega), up1_ne h]
theorem pl_F {N i y : Nat} {C V P : Nat → Int32} {b : Int32} : mI (plM M N C V P i b) 1020 y = up1 (up1 (up1 (up1 (mI M 1020) 21 (nI N)) 16 (nI 0)) 22 (nI i)) 24 b y := by
  show up2 (up2 (up2 (up1 (up1 (up1 (up1 (mI M) 1020 (up1 (mI M 1020) 21 (nI N))) (1020 + 12) C) (1020 + 13) V) (1020 + 14) P) 1020 16 (nI 0)) 1020 22 (nI i)) 1020 24 b 1020 y = _
  rw [up2_up1, up2_up1, up2_up1]
  simp only [up1_eq]
  rw [up1_ne (show 1020 ≠ 1020 + 14 by omega), up1_ne (show 1020 ≠ 1020 + 13 by omega), up1_ne (show 1020 ≠ 1020 + 12 by omega), up1_eq]
theorem pl_C {N i : Nat} {C V P : Nat → Int32} {b : Int32} : mI (plM M N C V P i b) 1032 = C := by
  show up2 (up2 (up2 (up1 (up1 (up1 (up1 (mI M) 1020 (up1 (mI M 1020) 21 (nI N))) (1020 + 12) C) (1020 + 13) V) (1020 + 14) P) 1020 16 (nI 0)) 1020 22 (nI i)) 1020 24 b (1020 + 12) = _
  rw [up2_o (by omega), up2_o (by omega), up2_o (by omega), up1_ne (show 1020 + 12 ≠ 1020 + 14 by omega), up1_ne (show 1020 + 12 ≠ 1020 + 13 by omega), up1_eq]
theorem pl_P {N i : Nat} {C V P : Nat → Int32} {b : Int32} : mI (plM M N C V P i b) 1034 = P := by
  show up2 (up2 (up2 (up1 (up1 (up1 (up1 (mI M) 1020 (up1 (mI M 1020) 21 (nI N))) (1020 + 12) C) (1020 + 13) V) (1020 + 14) P) 1020 16 (nI 0)) 1020 22 (nI i)) 1020 24 b (1020 + 14) = _
  rw [up2_o (by omega), up2_o (by omega), up2_o (by omega), up1_eq]
theorem pl_b {N i : Nat} {C V P : Nat → Int32} {b b2 : Int32} : sI (plM M N C V P i b) 1020 24 b2 = plM M N C V P i b2 := by
  refine mk2_ext (M := M) ?_ rfl
  show up2 (up2 (mI (sI (sI (spM M 1020 N C V P) 1020 16 (nI 0)) 1020 22 (nI i))) 1020 24 b) 1020 24 b2 = up2 (mI (sI (sI (spM M 1020 N C V P) 1020 16 (nI 0)) 1020 22 (nI i))) 1020 24 b2
  rw [up2_up1, up2_up1, up2_up1, up1_eq, up1_up1, up1_up1]
theorem pl_i {N i i2 : Nat} {C V P : Nat → Int32} {b : Int32} : sI (plM M N C V P i b) 1020 22 (nI i2) = plM M N C V P i2 b := by
  refine mk2_ext (M := M) ?_ rfl
  show up2 (up2 (up2 (mI (sI (spM M 1020 N C V P) 1020 16 (nI 0))) 1020 22 (nI i)) 1020 24 b) 1020 22 (nI i2) = up2 (up2 (mI (sI (spM M 1020 N C V P) 1020 16 (nI 0))) 1020 22 (nI i2)) 1020 24 b
  rw [up2_up1, up2_up1, up2_up1, up2_up1, up2_up1]
  simp only [up1_eq, up1_up1]
  rw [up1_comm (mI (sI (spM M 1020 N C V P) 1020 16 (nI 0)) 1020) (show 22 ≠ 24 by omega), up1_up1, up1_comm _ (show 24 ≠ 22 by omega)]
/-- what holds of the model behind it -/
theorem MR.pl {z : ST} {N i : Nat} {C V P : Nat → Int32} {b f : Int32} (h : MR z M) : MR (zTp z (zS z) f) (sI (plM M N C V P i b) 1020 17 f) := by
  have eF : ∀ k, k ≠ 17 → mI (sI (plM M N C V P i b) 1020 17 f) 1020 k = up1 (up1 (up1 (up1 (mI M 1020) 21 (nI N)) 16 (nI 0)) 22 (nI i)) 24 b k := fun k hk => (s_k hk).trans pl_F
  have eX : ∀ x, x ≠ 1020 → x ≠ 1032 → x ≠ 1033 → x ≠ 1034 → mI (sI (plM M N C V P i b) 1020 17 f) x = mI M x := fun x a b c d => (s_o a).trans (pl_x a b c d)
  have hNM := h.2.2.2.2.2.2.1
  refine MR.gen (M := M) (I2 := mI (sI (plM M N C V P i b) 1020 17 f)) (J2 := mJ M) (L2 := 0) (s2 := zS z) (f := f) h (fun x q => eX x (by unfold moK at q; omega) (by unfold moK at q; omega) (by unfold moK at q; omega) (by unfold moK at q; omega)) (fun x _ => rfl) (fun k hk => ?_) ?_ ?_ ?_ ?_ ?_ s_v ?_
  · rw [eF k (by omega), up1_ne (by omega), up1_ne (by omega), up1_ne (by omega), up1_ne (by omega)]
  · rw [eF 27 (by omega), up1_ne (by omega), up1_ne (by omega), up1_ne (by omega), up1_ne (by omega)]; exact hNM.2.2.2.2.1
  · rw [eF 16 (by omega), up1_ne (by omega), up1_ne (by omega), up1_eq]
  · rw [eF 9 (by omega), up1_ne (by omega), up1_ne (by omega), up1_ne (by omega), up1_ne (by omega)]; exact hNM.1
  · rw [eF 54 (by omega), up1_ne (by omega), up1_ne (by omega), up1_ne (by omega), up1_ne (by omega)]; exact hNM.2.1
  · rw [eF 0 (by omega), up1_ne (by omega), up1_ne (by omega), up1_ne (by omega), up1_ne (by omega)]; exact hNM.2.2.1
  · rw [eX 1022 (by omega) (by omega) (by omega) (by omega)]; exact h.2.1
theorem CSame.pl {N i : Nat} {C V P : Nat → Int32} {b f : Int32} : CSame M (sI (plM M N C V P i b) 1020 17 f) := CSame.mk2 (M := M) (I := mI (sI (plM M N C V P i b) 1020 17 f)) (fun x q => ⟨(s_o (by omega)).trans (pl_x (by omega) (by omega) (by omega) (by omega)), rfl⟩)
theorem m_policyA {c : Nat} {z : ST} (h : MR z M) (hO : ZOK c z) (hc : c < 512) :
    (∀ k, k < 5 → plF (tC (zT z).2 (zT z).1) (enT (zT z).2 (zT z).1) = (true, k) → CaM g Y_Mo_policy [] M (nI k) (zGood (zTp z (polS (zS z) k) (-1)))) ∧ (∀ j, plF (tC (zT z).2 (zT z).1) (enT (zT z).2 (zT z).1) = (false, j) → CaM g Y_Mo_policy [] M (-6) (zBad (zTp z (zS z) (nI (tS (zT z).2 (zT z).1 j))) 6)) := by
  obtain ⟨hM, hSM, hUM, hIM, hDM, hPM, hNM, hBM⟩ := id h
  have to0 := hM.1
  have e16 := hPM.1
  have h400 := hO.2.2.2.1
  have hX : MtOK M 1020 (zT z).2 := ⟨hPM.2.1, hO.2.2.2.2.1, hPM.2.2⟩
  have hts : ∀ j, ¬ nI (tS (zT z).2 (zT z).1 j) = -1 := fun j => nI_ne1 (by have := tS_le (bt := (zT z).2) (L := (zT z).1) j; omega)
  have ht0 := tC_400 (L := (zT z).1) (i := 0) hO.2.2.2.2.1
  refine ⟨fun k hk hp => ?_, fun j hp => ?_⟩
  · obtain ⟨k2, q1, q2, q3, q4, q5⟩ | ⟨-, -, -, q5⟩ | ⟨-, q5⟩ := plF_3 (tc := tC (zT z).2 (zT z).1) (en := enT (zT z).2 (zT z).1)
    · obtain rfl : k2 = k := by rw [hp] at q5; exact (Prod.mk.inj q5).2.symm
      refine cw_entry 1 pf_Mo_policy rfl ?_
      refine wp_aload_n rfl (ck_get kk_Mo_policy 0 rfl) ?_
      refine wp_aload_n rfl (ck_get kk_Mo_policy 1 rfl) ?_
      first | refine wp_getIv (ck_get kk_Mo_policy 2 rfl) fl_Mo_179 (by assumption) (by assumption) ?_ | refine wp_getI (ck_get kk_Mo_policy 2 rfl) fl_Mo_179 (by assumption) ?_
      refine wp_cV1v (ck_get kk_Mo_policy 3 rfl) ml_Mo_272 (by omega) (Nat.le_of_ble_eq_true rfl) (by assumption) (Cv.to (m_splits hM hX h400) ?_)
      rintro M1 ⟨N, C, V, P, e1, hN, hT, hS⟩
      subst e1
      refine wp_aload_n rfl (ck_get kk_Mo_policy 4 rfl) ?_
      refine wp_iconst (v := nI 0) (by decide) (ck_get kk_Mo_policy 5 rfl) ?_
      refine wp_putI (ck_get kk_Mo_policy 6 rfl) fl_Mo_179 (by decide +kernel) (by assumption) (okI_int _) ?_
      refine wp_aload_n rfl (ck_get kk_Mo_policy 7 rfl) ?_
      refine wp_iconst (v := nI 0) (by decide) (ck_get kk_Mo_policy 8 rfl) ?_
      refine wp_putI (ck_get kk_Mo_policy 9 rfl) fl_Mo_208 (by decide +kernel) (by assumption) (okI_int _) ?_
      refine wp_aload_n rfl (ck_get kk_Mo_policy 10 rfl) ?_
      refine wp_iconst (v := (-1)) (by decide) (ck_get kk_Mo_policy 11 rfl) ?_
      refine wp_putI (ck_get kk_Mo_policy 12 rfl) fl_Mo_201 (by decide +kernel) (by assumption) (okI_int _) ?_
      have hEn := (en_ok hS 1).mp q4
      have eC := (hT 0 (Nat.zero_le _)).1
      rw [q3] at eC
      have to1 : mT (plM M N C V P 0 (-1)) 1020 = (11, 0) := to0
      have rc : mR M 1020 18 = some (1020 + 12) := MoAt.r hM 11 rfl
      have tcd : mT M (1020 + 12) = (20, 401) := MoAt.t hM 11 rfl
      have rfkept := MoAt.r hM 1 rfl
      have tfkept := MoAt.t hM 1 rfl
      have h24 : ∀ i b, mI (plM M N C V P i b) 1020 24 = b := fun i b => by rw [pl_F, up1_eq]
      have h22 : ∀ i b, mI (plM M N C V P i b) 1020 22 = nI i := fun i b => by rw [pl_F, up1_ne (by omega), up1_eq]
      have h21 : ∀ i b, mI (plM M N C V P i b) 1020 21 = nI N := fun i b => by rw [pl_F, up1_ne (by omega), up1_ne (by omega), up1_ne (by omega), up1_eq]
      refine wp_aload_n rfl (ck_get kk_Mo_policy 13 rfl) ?_
      refine wp_getR (ck_get kk_Mo_policy 14 rfl) fl_Mo_64 (by assumption) (by assumption) ?_
      refine wp_iconst (v := nI 0) (by decide) (ck_get kk_Mo_policy 15 rfl) ?_
      refine wp_ialdv (v := nI (24 + k2)) (ck_get kk_Mo_policy 16 rfl) (by assumption) (ixk_nI (k := 0) (by omega) (by omega)) ((by rw [show (1020 + 12 : Nat) = 1032 from rfl, pl_C]; exact eC)) ?_
      refine wp_bipush (v := nI 24) (by decide) (ck_get kk_Mo_policy 17 rfl) ?_
      refine wp_isubN (ck_get kk_Mo_policy 18 rfl) (by omega) ?_
      refine wp_istore_n (ck_get kk_Mo_policy 19 rfl) (by decide) rfl ?_
      refine wp_iload_n rfl (ck_get kk_Mo_policy 20 rfl) ?_
      refine wp_iconst (v := nI 0) (by decide) (ck_get kk_Mo_policy 21 rfl) ?_
      refine wp_iconst (v := nI 4) (by decide) (ck_get kk_Mo_policy 22 rfl) ?_
      refine wp_cS3i (ck_get kk_Mo_policy 23 rfl) ml_Mo_18 (by omega) (Nat.le_of_ble_eq_true rfl) (Ci.to (m_lies (by omega)) ?_)
      rintro _ M1 ⟨rfl, eqm1⟩
      obtain rfl := eqm1.symm
      rw [(inB_nI (k := 24 + k2 - 24) (n := 4 + 1) (by omega) (by omega))]
      first | refine wp_if_neN (t := 49) (ck_get kk_Mo_policy 24 rfl) (by decide) (by omega) (fun hc39 => ?_) (fun hc39 => ?_) | refine wp_if_ne (t := 49) (ck_get kk_Mo_policy 24 rfl) (by decide) (fun hc39 => ?_) (fun hc39 => ?_)
      · refine wp_aload_n rfl (ck_get kk_Mo_policy 28 rfl) ?_
        refine wp_dup rfl (ck_get kk_Mo_policy 29 rfl) ?_
        refine wp_getIv (v := nI 0) (ck_get kk_Mo_policy 30 rfl) fl_Mo_208 (by assumption) (h22 0 (-1)) ?_
        refine wp_iconst (v := nI 1) (by decide) (ck_get kk_Mo_policy 31 rfl) ?_
        first | refine wp_iaddN (ck_get kk_Mo_policy 32 rfl) ?_ | refine wp_iadd (ck_get kk_Mo_policy 32 rfl) ?_
        refine wp_putI (ck_get kk_Mo_policy 33 rfl) fl_Mo_208 (by decide +kernel) (by assumption) (okI_int _) ?_
        rw [pl_i]
        refine wp_aload_n rfl (ck_get kk_Mo_policy 34 rfl) ?_
        refine wp_cV0i (ck_get kk_Mo_policy 35 rfl) ml_Mo_204 (by omega) (Nat.le_of_ble_eq_true rfl) (by assumption) (Ci.to (m_fineG hM) ?_)
        rintro _ M1 ⟨rfl, eqm1⟩
        obtain rfl := eqm1.symm
        rw [(decide_eq_true (h24 (0 + 1) (-1)))]
        first | refine wp_if_eqN (t := 81) (ck_get kk_Mo_policy 36 rfl) (by decide) (by omega) (fun hc63 => ?_) (fun hc63 => ?_) | refine wp_if_eq (t := 81) (ck_get kk_Mo_policy 36 rfl) (by decide) (fun hc63 => ?_) (fun hc63 => ?_)
        · exact absurd hc63 (by decide)
        · refine wp_aload_n rfl (ck_get kk_Mo_policy 37 rfl) ?_
          refine wp_getIv (v := nI (0 + 1)) (ck_get kk_Mo_policy 38 rfl) fl_Mo_208 (by assumption) (h22 (0 + 1) (-1)) ?_
          refine wp_aload_n rfl (ck_get kk_Mo_policy 39 rfl) ?_
          refine wp_getIv (v := nI N) (ck_get kk_Mo_policy 40 rfl) fl_Mo_188 (by assumption) (h21 (0 + 1) (-1)) ?_
          first | refine wp_icmp_geN (t := 81) (ck_get kk_Mo_policy 41 rfl) (by decide) (by omega) (by omega) (fun hc74 => ?_) (fun hc74 => ?_) | refine wp_icmp_ge (t := 81) (ck_get kk_Mo_policy 41 rfl) (by decide) (fun hc74 => ?_) (fun hc74 => ?_)
          · refine wp_aload_n rfl (ck_get kk_Mo_policy 44 rfl) ?_
            refine wp_aload_n rfl (ck_get kk_Mo_policy 45 rfl) ?_
            refine wp_getIv (v := -1) (ck_get kk_Mo_policy 46 rfl) fl_Mo_201 (by assumption) (h24 (0 + 1) (-1)) ?_
            refine wp_putI (ck_get kk_Mo_policy 47 rfl) fl_Mo_61 (by decide +kernel) (by assumption) (okI_int _) ?_
            refine wp_aload_n rfl (ck_get kk_Mo_policy 48 rfl) ?_
            refine wp_cV0i (ck_get kk_Mo_policy 49 rfl) ml_Mo_204 (by omega) (Nat.le_of_ble_eq_true rfl) (by assumption) (Ci.to (m_fineG (by exact hM)) ?_)
            rintro _ M1 ⟨rfl, eqm1⟩
            obtain rfl := eqm1.symm
            rw [(decide_eq_true ((s_k (by omega)).trans (h24 (0 + 1) (-1))))]
            first | refine wp_if_neN (t := 103) (ck_get kk_Mo_policy 50 rfl) (by decide) (by omega) (fun hc93 => ?_) (fun hc93 => ?_) | refine wp_if_ne (t := 103) (ck_get kk_Mo_policy 50 rfl) (by decide) (fun hc93 => ?_) (fun hc93 => ?_)
            · refine wp_aload_n rfl (ck_get kk_Mo_policy 55 rfl) ?_
              refine wp_getR (ck_get kk_Mo_policy 56 rfl) fl_Mo_28 (by assumption) (by assumption) ?_
              refine wp_sipush (v := nI 369) (by decide) (ck_get kk_Mo_policy 57 rfl) ?_
              refine wp_iload_n rfl (ck_get kk_Mo_policy 58 rfl) ?_
              refine wp_iast (ck_get kk_Mo_policy 59 rfl) (by assumption) (ixk_nI (k := 369) (by omega) (by omega)) ?_
              have hR := (h.pl (N := N) (C := C) (V := V) (P := P) (i := 0 + 1) (b := -1) (f := -1)).shop (s2 := polS (zS z) k2) (I2 := up2 (mI (sI (plM M N C V P (0 + 1) (-1)) 1020 17 (-1))) (1020 + 2) 369 (nI (24 + k2 - 24))) (J2 := mJ M) (fun x q => up2_o (by unfold moK at q; omega)) (fun x _ => rfl) (fun k _ => by rw [up2_o (by omega)]) (by rw [up2_o (by omega)]; exact (h.pl (N := N) (C := C) (V := V) (P := P) (i := 0 + 1) (b := -1) (f := -1)).2.2.2.2.2.2.1.2.2.2.2.1) (by
                obtain ⟨s1, s2, s3, s4, s5, s6, s7, s8, s9, s10⟩ := hSM
                have eK : ∀ y, y ≠ 369 → up2 (mI (sI (plM M N C V P (0 + 1) (-1)) 1020 17 (-1))) (1020 + 2) 369 (nI (24 + k2 - 24)) 1022 y = mI M 1022 y := fun y a => by
                  rw [show (1022 : Nat) = 1020 + 2 from rfl, up2_k a, s_o (by omega), pl_x (by omega) (by omega) (by omega) (by omega)]
                exact ⟨s1.kept hO.1.1 (fun x a b => eK x (by omega)) (fun x _ _ => rfl), by rw [show (1022 : Nat) = 1020 + 2 from rfl, up2_v, show 24 + k2 - 24 = k2 by omega]; rfl, fun i hi => by rw [eK _ (by omega), eK _ (by omega)]; exact s3 i hi, by rw [eK _ (by omega)]; exact s4, by rw [eK _ (by omega)]; exact s5, by rw [eK _ (by omega)]; exact s6, by rw [eK _ (by omega)]; exact s7, by rw [eK _ (by omega)]; exact s8, by rw [eK _ (by omega)]; exact s9, fun i hi => (s10 i hi).kept (Nat.lt_of_lt_of_le hi (Nat.le_trans hO.1.2.2.2.2.2.2.2.2.1 (by omega))) (fun x a => eK x (by omega)) rfl⟩)
              refine wp_aload_n rfl (ck_get kk_Mo_policy 60 rfl) ?_
              refine wp_iload_n rfl (ck_get kk_Mo_policy 61 rfl) ?_
              refine wp_cV1i (ck_get kk_Mo_policy 62 rfl) ml_Mo_14 (by omega) (Nat.le_of_ble_eq_true rfl) (by assumption) (Ci.to (m_good (by exact hM)) ?_)
              rintro x M1 ⟨e1, e2⟩
              refine wp_ireturn (ck_get kk_Mo_policy 63 rfl) rfl rfl ⟨_, rfl, ?_⟩
              exact ⟨e1.trans (by rw [show 24 + k2 - 24 = k2 by omega]), by rw [e2]; exact hR.good, by rw [e2]; exact (CSame.pl.trans (CSame.s (by omega))).trans CSame.gd⟩
            · exact absurd hc93 (by decide)
          · omega
      · exact absurd hc39 (by decide)
    · rw [hp] at q5; cases q5
    · rw [hp] at q5; cases q5
  · obtain ⟨k2, -, -, -, -, q5⟩ | ⟨q1, q2, q4, q5⟩ | ⟨q1, q5⟩ := plF_3 (tc := tC (zT z).2 (zT z).1) (en := enT (zT z).2 (zT z).1)
    · rw [hp] at q5; cases q5
    · obtain rfl : j = 1 := by rw [hp] at q5; exact (Prod.mk.inj q5).2
      refine cw_entry 1 pf_Mo_policy rfl ?_
      refine wp_aload_n rfl (ck_get kk_Mo_policy 0 rfl) ?_
      refine wp_aload_n rfl (ck_get kk_Mo_policy 1 rfl) ?_
      first | refine wp_getIv (ck_get kk_Mo_policy 2 rfl) fl_Mo_179 (by assumption) (by assumption) ?_ | refine wp_getI (ck_get kk_Mo_policy 2 rfl) fl_Mo_179 (by assumption) ?_
      refine wp_cV1v (ck_get kk_Mo_policy 3 rfl) ml_Mo_272 (by omega) (Nat.le_of_ble_eq_true rfl) (by assumption) (Cv.to (m_splits hM hX h400) ?_)
      rintro M1 ⟨N, C, V, P, e1, hN, hT, hS⟩
      subst e1
      refine wp_aload_n rfl (ck_get kk_Mo_policy 4 rfl) ?_
      refine wp_iconst (v := nI 0) (by decide) (ck_get kk_Mo_policy 5 rfl) ?_
      refine wp_putI (ck_get kk_Mo_policy 6 rfl) fl_Mo_179 (by decide +kernel) (by assumption) (okI_int _) ?_
      refine wp_aload_n rfl (ck_get kk_Mo_policy 7 rfl) ?_
      refine wp_iconst (v := nI 0) (by decide) (ck_get kk_Mo_policy 8 rfl) ?_
      refine wp_putI (ck_get kk_Mo_policy 9 rfl) fl_Mo_208 (by decide +kernel) (by assumption) (okI_int _) ?_
      refine wp_aload_n rfl (ck_get kk_Mo_policy 10 rfl) ?_
      refine wp_iconst (v := (-1)) (by decide) (ck_get kk_Mo_policy 11 rfl) ?_
      refine wp_putI (ck_get kk_Mo_policy 12 rfl) fl_Mo_201 (by decide +kernel) (by assumption) (okI_int _) ?_
      have hEn : 1 < N := Decidable.not_not.mp (fun q => by have := (en_ok hS 1).mpr q; rw [q4] at this; cases this)
      have eC := (hT 0 (Nat.zero_le _)).1
      have eP := (hT 1 (by omega)).2.2
      have rc : mR M 1020 18 = some (1020 + 12) := MoAt.r hM 11 rfl
      have tcd : mT M (1020 + 12) = (20, 401) := MoAt.t hM 11 rfl
      have h24 : ∀ i b, mI (plM M N C V P i b) 1020 24 = b := fun i b => by rw [pl_F, up1_eq]
      have h22 : ∀ i b, mI (plM M N C V P i b) 1020 22 = nI i := fun i b => by rw [pl_F, up1_ne (by omega), up1_eq]
      have h21 : ∀ i b, mI (plM M N C V P i b) 1020 21 = nI N := fun i b => by rw [pl_F, up1_ne (by omega), up1_ne (by omega), up1_ne (by omega), up1_eq]
      refine wp_aload_n rfl (ck_get kk_Mo_policy 13 rfl) ?_
      refine wp_getR (ck_get kk_Mo_policy 14 rfl) fl_Mo_64 (by assumption) (by assumption) ?_
      refine wp_iconst (v := nI 0) (by decide) (ck_get kk_Mo_policy 15 rfl) ?_
      refine wp_ialdv (v := nI (tC (zT z).2 (zT z).1 0)) (ck_get kk_Mo_policy 16 rfl) (by assumption) (ixk_nI (k := 0) (by omega) (by omega)) ((by rw [show (1020 + 12 : Nat) = 1032 from rfl, pl_C]; exact eC)) ?_
      refine wp_bipush (v := nI 24) (by decide) (ck_get kk_Mo_policy 17 rfl) ?_
      refine wp_isubN (ck_get kk_Mo_policy 18 rfl) (by omega) ?_
      refine wp_istore_n (ck_get kk_Mo_policy 19 rfl) (by decide) rfl ?_
      refine wp_iload_n rfl (ck_get kk_Mo_policy 20 rfl) ?_
      refine wp_iconst (v := nI 0) (by decide) (ck_get kk_Mo_policy 21 rfl) ?_
      refine wp_iconst (v := nI 4) (by decide) (ck_get kk_Mo_policy 22 rfl) ?_
      refine wp_cS3i (ck_get kk_Mo_policy 23 rfl) ml_Mo_18 (by omega) (Nat.le_of_ble_eq_true rfl) (Ci.to (m_lies (by omega)) ?_)
      rintro _ M1 ⟨rfl, eqm1⟩
      obtain rfl := eqm1.symm
      rw [(inB_nI (k := tC (zT z).2 (zT z).1 0 - 24) (n := 4 + 1) (by omega) (by omega))]
      first | refine wp_if_neN (t := 49) (ck_get kk_Mo_policy 24 rfl) (by decide) (by omega) (fun hc39 => ?_) (fun hc39 => ?_) | refine wp_if_ne (t := 49) (ck_get kk_Mo_policy 24 rfl) (by decide) (fun hc39 => ?_) (fun hc39 => ?_)
      · refine wp_aload_n rfl (ck_get kk_Mo_policy 28 rfl) ?_
        refine wp_dup rfl (ck_get kk_Mo_policy 29 rfl) ?_
        refine wp_getIv (v := nI 0) (ck_get kk_Mo_policy 30 rfl) fl_Mo_208 (by assumption) (h22 0 (-1)) ?_
        refine wp_iconst (v := nI 1) (by decide) (ck_get kk_Mo_policy 31 rfl) ?_
        first | refine wp_iaddN (ck_get kk_Mo_policy 32 rfl) ?_ | refine wp_iadd (ck_get kk_Mo_policy 32 rfl) ?_
        refine wp_putI (ck_get kk_Mo_policy 33 rfl) fl_Mo_208 (by decide +kernel) (by assumption) (okI_int _) ?_
        rw [pl_i]
        refine wp_aload_n rfl (ck_get kk_Mo_policy 34 rfl) ?_
        refine wp_cV0i (ck_get kk_Mo_policy 35 rfl) ml_Mo_204 (by omega) (Nat.le_of_ble_eq_true rfl) (by assumption) (Ci.to (m_fineG hM) ?_)
        rintro _ M1 ⟨rfl, eqm1⟩
        obtain rfl := eqm1.symm
        rw [(decide_eq_true (h24 (0 + 1) (-1)))]
        first | refine wp_if_eqN (t := 81) (ck_get kk_Mo_policy 36 rfl) (by decide) (by omega) (fun hc63 => ?_) (fun hc63 => ?_) | refine wp_if_eq (t := 81) (ck_get kk_Mo_policy 36 rfl) (by decide) (fun hc63 => ?_) (fun hc63 => ?_)
        · exact absurd hc63 (by decide)
        · refine wp_aload_n rfl (ck_get kk_Mo_policy 37 rfl) ?_
          refine wp_getIv (v := nI (0 + 1)) (ck_get kk_Mo_policy 38 rfl) fl_Mo_208 (by assumption) (h22 (0 + 1) (-1)) ?_
          refine wp_aload_n rfl (ck_get kk_Mo_policy 39 rfl) ?_
          refine wp_getIv (v := nI N) (ck_get kk_Mo_policy 40 rfl) fl_Mo_188 (by assumption) (h21 (0 + 1) (-1)) ?_
          first | refine wp_icmp_geN (t := 81) (ck_get kk_Mo_policy 41 rfl) (by decide) (by omega) (by omega) (fun hc74 => ?_) (fun hc74 => ?_) | refine wp_icmp_ge (t := 81) (ck_get kk_Mo_policy 41 rfl) (by decide) (fun hc74 => ?_) (fun hc74 => ?_)
          · omega
          · refine wp_aload_n rfl (ck_get kk_Mo_policy 42 rfl) ?_
            refine wp_cV0v (ck_get kk_Mo_policy 43 rfl) ml_Mo_214 (by omega) (Nat.le_of_ble_eq_true rfl) (by assumption) (Cv.to (m_faultsG (i := 0 + 1) (by exact hM) (h24 _ _) (h22 _ _) (by omega)) ?_)
            rintro M1 e1
            rw [pl_P, show P (0 + 1) = _ from eP, pl_b] at e1
            subst e1
            refine wp_aload_n rfl (ck_get kk_Mo_policy 44 rfl) ?_
            refine wp_aload_n rfl (ck_get kk_Mo_policy 45 rfl) ?_
            refine wp_getIv (v := nI (tS (zT z).2 (zT z).1 1)) (ck_get kk_Mo_policy 46 rfl) fl_Mo_201 (by assumption) (h24 _ _) ?_
            refine wp_putI (ck_get kk_Mo_policy 47 rfl) fl_Mo_61 (by decide +kernel) (by assumption) (okI_int _) ?_
            refine wp_aload_n rfl (ck_get kk_Mo_policy 48 rfl) ?_
            refine wp_cV0i (ck_get kk_Mo_policy 49 rfl) ml_Mo_204 (by omega) (Nat.le_of_ble_eq_true rfl) (by assumption) (Ci.to (m_fineG (by exact hM)) ?_)
            rintro _ M1 ⟨rfl, eqm1⟩
            obtain rfl := eqm1.symm
            rw [(decide_eq_false (fun q => hts 1 (((s_k (by omega)).trans (h24 _ _)).symm.trans q)))]
            first | refine wp_if_neN (t := 103) (ck_get kk_Mo_policy 50 rfl) (by decide) (by omega) (fun hc93 => ?_) (fun hc93 => ?_) | refine wp_if_ne (t := 103) (ck_get kk_Mo_policy 50 rfl) (by decide) (fun hc93 => ?_) (fun hc93 => ?_)
            · exact absurd (by decide) hc93
            · refine wp_aload_n rfl (ck_get kk_Mo_policy 51 rfl) ?_
              refine wp_bipush (v := (-6)) (by decide) (ck_get kk_Mo_policy 52 rfl) ?_
              refine wp_cV1i (ck_get kk_Mo_policy 53 rfl) ml_Mo_146 (by omega) (Nat.le_of_ble_eq_true rfl) (by assumption) (Ci.to (m_refusesV (c := 6) (by decide) (by exact hM) (by omega)) ?_)
              rintro x M1 ⟨e1, e2⟩
              refine wp_ireturn (ck_get kk_Mo_policy 54 rfl) rfl rfl ⟨_, rfl, ?_⟩
              exact ⟨e1, by rw [e2]; exact h.pl.bad (k := 6) (by omega), by rw [e2]; exact CSame.pl.trans CSame.rf⟩
      · exact absurd hc39 (by decide)
    · obtain rfl : j = 0 := by rw [hp] at q5; exact (Prod.mk.inj q5).2
      refine cw_entry 1 pf_Mo_policy rfl ?_
      refine wp_aload_n rfl (ck_get kk_Mo_policy 0 rfl) ?_
      refine wp_aload_n rfl (ck_get kk_Mo_policy 1 rfl) ?_
      first | refine wp_getIv (ck_get kk_Mo_policy 2 rfl) fl_Mo_179 (by assumption) (by assumption) ?_ | refine wp_getI (ck_get kk_Mo_policy 2 rfl) fl_Mo_179 (by assumption) ?_
      refine wp_cV1v (ck_get kk_Mo_policy 3 rfl) ml_Mo_272 (by omega) (Nat.le_of_ble_eq_true rfl) (by assumption) (Cv.to (m_splits hM hX h400) ?_)
      rintro M1 ⟨N, C, V, P, e1, hN, hT, hS⟩
      subst e1
      refine wp_aload_n rfl (ck_get kk_Mo_policy 4 rfl) ?_
      refine wp_iconst (v := nI 0) (by decide) (ck_get kk_Mo_policy 5 rfl) ?_
      refine wp_putI (ck_get kk_Mo_policy 6 rfl) fl_Mo_179 (by decide +kernel) (by assumption) (okI_int _) ?_
      refine wp_aload_n rfl (ck_get kk_Mo_policy 7 rfl) ?_
      refine wp_iconst (v := nI 0) (by decide) (ck_get kk_Mo_policy 8 rfl) ?_
      refine wp_putI (ck_get kk_Mo_policy 9 rfl) fl_Mo_208 (by decide +kernel) (by assumption) (okI_int _) ?_
      refine wp_aload_n rfl (ck_get kk_Mo_policy 10 rfl) ?_
      refine wp_iconst (v := (-1)) (by decide) (ck_get kk_Mo_policy 11 rfl) ?_
      refine wp_putI (ck_get kk_Mo_policy 12 rfl) fl_Mo_201 (by decide +kernel) (by assumption) (okI_int _) ?_
      have eC := (hT 0 (Nat.zero_le _)).1
      have eP := (hT 0 (Nat.zero_le _)).2.2
      have rc : mR M 1020 18 = some (1020 + 12) := MoAt.r hM 11 rfl
      have tcd : mT M (1020 + 12) = (20, 401) := MoAt.t hM 11 rfl
      have h24 : ∀ i b, mI (plM M N C V P i b) 1020 24 = b := fun i b => by rw [pl_F, up1_eq]
      have h22 : ∀ i b, mI (plM M N C V P i b) 1020 22 = nI i := fun i b => by rw [pl_F, up1_ne (by omega), up1_eq]
      refine wp_aload_n rfl (ck_get kk_Mo_policy 13 rfl) ?_
      refine wp_getR (ck_get kk_Mo_policy 14 rfl) fl_Mo_64 (by assumption) (by assumption) ?_
      refine wp_iconst (v := nI 0) (by decide) (ck_get kk_Mo_policy 15 rfl) ?_
      refine wp_ialdv (v := nI (tC (zT z).2 (zT z).1 0)) (ck_get kk_Mo_policy 16 rfl) (by assumption) (ixk_nI (k := 0) (by omega) (by omega)) ((by rw [show (1020 + 12 : Nat) = 1032 from rfl, pl_C]; exact eC)) ?_
      refine wp_bipush (v := nI 24) (by decide) (ck_get kk_Mo_policy 17 rfl) ?_
      refine wp_isub (ck_get kk_Mo_policy 18 rfl) ?_
      refine wp_istore_n (ck_get kk_Mo_policy 19 rfl) (by decide) rfl ?_
      refine wp_iload_n rfl (ck_get kk_Mo_policy 20 rfl) ?_
      refine wp_iconst (v := nI 0) (by decide) (ck_get kk_Mo_policy 21 rfl) ?_
      refine wp_iconst (v := nI 4) (by decide) (ck_get kk_Mo_policy 22 rfl) ?_
      refine wp_cS3i (ck_get kk_Mo_policy 23 rfl) ml_Mo_18 (by omega) (Nat.le_of_ble_eq_true rfl) (Ci.to (m_lies (by omega)) ?_)
      rintro _ M1 ⟨rfl, eqm1⟩
      obtain rfl := eqm1.symm
      rw [((sub24 ht0).trans (decide_eq_false q1))]
      first | refine wp_if_neN (t := 49) (ck_get kk_Mo_policy 24 rfl) (by decide) (by omega) (fun hc39 => ?_) (fun hc39 => ?_) | refine wp_if_ne (t := 49) (ck_get kk_Mo_policy 24 rfl) (by decide) (fun hc39 => ?_) (fun hc39 => ?_)
      · exact absurd (by decide) hc39
      · refine wp_aload_n rfl (ck_get kk_Mo_policy 25 rfl) ?_
        refine wp_cV0v (ck_get kk_Mo_policy 26 rfl) ml_Mo_214 (by omega) (Nat.le_of_ble_eq_true rfl) (by assumption) (Cv.to (m_faultsG (i := 0) (by exact hM) (h24 _ _) (h22 _ _) (by omega)) ?_)
        rintro M1 e1
        rw [pl_P, eP, pl_b] at e1
        subst e1
        refine wp_goto (t := 59) (ck_get kk_Mo_policy 27 rfl) (by decide) ?_
        refine wp_aload_n rfl (ck_get kk_Mo_policy 34 rfl) ?_
        refine wp_cV0i (ck_get kk_Mo_policy 35 rfl) ml_Mo_204 (by omega) (Nat.le_of_ble_eq_true rfl) (by assumption) (Ci.to (m_fineG (by exact hM)) ?_)
        rintro _ M1 ⟨rfl, eqm1⟩
        obtain rfl := eqm1.symm
        rw [(decide_eq_false (fun q => hts 0 ((h24 _ _).symm.trans q)))]
        first | refine wp_if_eqN (t := 81) (ck_get kk_Mo_policy 36 rfl) (by decide) (by omega) (fun hc63 => ?_) (fun hc63 => ?_) | refine wp_if_eq (t := 81) (ck_get kk_Mo_policy 36 rfl) (by decide) (fun hc63 => ?_) (fun hc63 => ?_)
        · refine wp_aload_n rfl (ck_get kk_Mo_policy 44 rfl) ?_
          refine wp_aload_n rfl (ck_get kk_Mo_policy 45 rfl) ?_
          refine wp_getIv (v := nI (tS (zT z).2 (zT z).1 0)) (ck_get kk_Mo_policy 46 rfl) fl_Mo_201 (by assumption) (h24 _ _) ?_
          refine wp_putI (ck_get kk_Mo_policy 47 rfl) fl_Mo_61 (by decide +kernel) (by assumption) (okI_int _) ?_
          refine wp_aload_n rfl (ck_get kk_Mo_policy 48 rfl) ?_
          refine wp_cV0i (ck_get kk_Mo_policy 49 rfl) ml_Mo_204 (by omega) (Nat.le_of_ble_eq_true rfl) (by assumption) (Ci.to (m_fineG (by exact hM)) ?_)
          rintro _ M1 ⟨rfl, eqm1⟩
          obtain rfl := eqm1.symm
          rw [(decide_eq_false (fun q => hts 0 (((s_k (by omega)).trans (h24 _ _)).symm.trans q)))]
          first | refine wp_if_neN (t := 103) (ck_get kk_Mo_policy 50 rfl) (by decide) (by omega) (fun hc93 => ?_) (fun hc93 => ?_) | refine wp_if_ne (t := 103) (ck_get kk_Mo_policy 50 rfl) (by decide) (fun hc93 => ?_) (fun hc93 => ?_)
          · exact absurd (by decide) hc93
          · refine wp_aload_n rfl (ck_get kk_Mo_policy 51 rfl) ?_
            refine wp_bipush (v := (-6)) (by decide) (ck_get kk_Mo_policy 52 rfl) ?_
            refine wp_cV1i (ck_get kk_Mo_policy 53 rfl) ml_Mo_146 (by omega) (Nat.le_of_ble_eq_true rfl) (by assumption) (Ci.to (m_refusesV (c := 6) (by decide) (by exact hM) (by omega)) ?_)
            rintro x M1 ⟨e1, e2⟩
            refine wp_ireturn (ck_get kk_Mo_policy 54 rfl) rfl rfl ⟨_, rfl, ?_⟩
            exact ⟨e1, by rw [e2]; exact h.pl.bad (k := 6) (by omega), by rw [e2]; exact CSame.pl.trans CSame.rf⟩
        · exact absurd (by decide) hc63
theorem b_policy (hS : OutOK g) : Both g Y_Mc_policy Y_Mo_policy [] := by
  intro c z hc hO
  have hO1 : ZOK (c + 1) z := hO.le (Nat.le_succ c)
  rcases plF_3 (tc := tC (zT z).2 (zT z).1) (en := enT (zT z).2 (zT z).1) with ⟨k, q1, -, -, -, q5⟩ | ⟨-, -, -, q5⟩ | ⟨-, q5⟩
  · refine ⟨nI k, _, (hO1.tp ?_).good, fun M h => c_policyT hS h hO hc q1 q5, fun M h => (m_policyA h hO hc).1 k q1 q5⟩
    obtain ⟨o1, o2, o3, o4⟩ := hO1.1
    exact ⟨o1, o2, q1, o4⟩
  · exact ⟨-6, _, (hO1.tp hO1.1).bad, fun M h => c_policyF hS h hO hc q5, fun M h => (m_policyA h hO hc).2 1 q5⟩
  · exact ⟨-6, _, (hO1.tp hO1.1).bad, fun M h => c_policyF hS h hO hc q5, fun M h => (m_policyA h hO hc).2 0 q5⟩
end POB
