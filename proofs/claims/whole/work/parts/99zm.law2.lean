/-! ===== law ===== -/
section LWM
variable {g : Gl} {M : Mem}
abbrev zPc (z : ST) (od : Bool) : PRes := pcF (tC (zT z).2 (zT z).1) (tV (zT z).2 (zT z).1) od (12 * (zT z).1 + 6) (enT (zT z).2 (zT z).1) 12 0 0 0
/-- the code of a law, as both have it -/
def LwF (z : ST) (sg : List Int32) (P : Nat → Nat → Int32) (nc : Nat) : Prop := ChS (tC (zT z).2 (zT z).1) (tV (zT z).2 (zT z).1) false (12 * (zT z).1 + 6) (enT (zT z).2 (zT z).1) (fun m k => P k m) nc 12 0 0 0 0 sg ∧ Hd (P 7) 0 sg ∧ nc ≤ 12
theorem sg_1024 {od : Bool} {z : ST} {j lf : Nat} {sg : List Int32} (h4 : (zT z).1 ≤ 400) (hp : zPc z od = (true, j, lf, sg)) : sg.length ≤ 1024 := by
  have := pcF_len (N := (zT z).1) (fun i hi => tC_N hi) 12 0 0 0 j lf sg hp (Nat.zero_le _) (Nat.zero_le _)
  omega
theorem c_lawT {c j lf : Nat} {z : ST} {sg : List Int32} (hS : OutOK g) (h : CR c z M) (hO : ZOK c z) (hc : c < 512) (hn : sLn (zS z) < 6) (hp : zPc z false = (true, j, lf, sg)) : Ci g Y_Mc_law 300 [.ref 0] M (fun y M2 => ∃ P nc, y = nI (sLn (zS z)) ∧ LwF z sg P nc ∧ CR (c + 1) (zGood (zTp z (addL (zS z) (P, sg.length, nc)) (-1))) M2 ∧ MSame M M2) := by
  have hCR := h
  have hC' := h.le (Nat.le_succ c)
  obtain ⟨pf, pg, hL, hSC, hTC, hIC, hDC, hPC, hNC, hBC, hZC⟩ := h
  obtain ⟨t0, ⟨r00, hSh⟩, ⟨r01, hTr⟩, ⟨r02, hTg⟩, ⟨r03, hWa⟩, ⟨r04, hWp⟩, ⟨r06, t921, r921a, r921b, hS0, hS1⟩, ⟨r07, t922⟩, ⟨r08, t923⟩, ⟨r010, hPa⟩, ⟨r011, hJu⟩, ⟨r012, hRe⟩, ⟨r013, hCu⟩, ⟨r014, hDe⟩, ⟨r018, t959⟩, hPf⟩ := id hL
  have t1 : mT M 1 = (6, 0) := hSh.1
  have r10 : mR M 1 0 = some 2 := hSh.2.1
  have hW2 : WoAt (mT M) (mR M) 2 := hSh.2.2.1
  have t2 : mT M 2 = (9, 0) := hW2.1
  have r20 : mR M 2 0 = some 3 := hW2.2.1
  have t3 : mT M 3 = (24, 4) := hW2.2.2.1
  have t31 : mT M 31 = (8, 0) := hTr.1
  have t924 : mT M 924 = (3, 0) := hPa.1
  have t934 : mT M 934 = (2, 0) := hJu.1
  have t938 : mT M 938 = (5, 0) := hRe.1
  have t947 : mT M 947 = (0, 0) := hCu.1
  have t952 : mT M 952 = (1, 0) := hDe.1
  have e9 := hPC.1
  have h400 := hO.2.2.2.1
  have hsg := sg_1024 h400 hp
  have e19 : mI M 1 9 = nI (sLn (zS z)) := hSC.2.2.2.2.2.2.2.1
  have r18 : mR M 1 8 = some 30 := hSh.2.2.2.2.2.2.2.1
  have t30 : mT M 30 = (27, 6) := hSh.2.2.2.2.2.2.2.2
  have hR : ∀ x y, ¬ (x = 924 ∧ y = 2) → up2 (mR M) 924 2 (some 923) x y = mR M x y := fun x y q => by
    unfold up2; rw [if_neg q]
  have hL2 : LayC (mT M) (up2 (mR M) 924 2 (some 923)) pf pg := hL.kk (fun _ _ => rfl) (fun x _ _ _ _ _ y hy => hR x y (fun q => hy q.1 q.2))
  have a00 : up2 (mR M) 924 2 (some 923) 0 0 = some 1 := (hR 0 0 (by omega)).trans r00
  have a18 : up2 (mR M) 924 2 (some 923) 1 8 = some 30 := (hR 1 8 (by omega)).trans r18
  have a010 : up2 (mR M) 924 2 (some 923) 0 10 = some 924 := (hR 0 10 (by omega)).trans r010
  have a924 : up2 (mR M) 924 2 (some 923) 924 0 = some 925 := (hR 924 0 (by omega)).trans hPa.2.1
  have t925 : mT M 925 = (4, 0) := hPa.2.2.1.1
  obtain ⟨z1, z2, z3, z4⟩ := hZC
  refine cw_entry 1 pf_Mc_law rfl ?_
  refine wp_aload_n rfl (ck_get kk_Mc_law 0 rfl) ?_
  first | refine wp_getIv (ck_get kk_Mc_law 1 rfl) fl_Mc_52 (by assumption) (by assumption) ?_ | refine wp_getI (ck_get kk_Mc_law 1 rfl) fl_Mc_52 (by assumption) ?_
  refine wp_istore_n (ck_get kk_Mc_law 2 rfl) (by decide) rfl ?_
  refine wp_aload_n rfl (ck_get kk_Mc_law 3 rfl) ?_
  refine wp_iconst (v := nI 0) (by decide) (ck_get kk_Mc_law 4 rfl) ?_
  refine wp_putI (ck_get kk_Mc_law 5 rfl) fl_Mc_52 (by decide +kernel) (by assumption) (okI_int _) ?_
  refine wp_aload_n rfl (ck_get kk_Mc_law 6 rfl) ?_
  refine wp_getR (ck_get kk_Mc_law 7 rfl) fl_Mc_12 (by assumption) (by assumption) ?_
  refine wp_getIv (v := nI (sLn (zS z))) (ck_get kk_Mc_law 8 rfl) fl_Mc_194 (by assumption) ((congrFun (s_o (by omega)) 9).trans e19) ?_
  refine wp_bipush (v := nI 6) (by decide) (ck_get kk_Mc_law 9 rfl) ?_
  first | refine wp_icmp_ltN (t := 29) (ck_get kk_Mc_law 10 rfl) (by decide) (by omega) (by omega) (fun hc19 => ?_) (fun hc19 => ?_) | refine wp_icmp_lt (t := 29) (ck_get kk_Mc_law 10 rfl) (by decide) (fun hc19 => ?_) (fun hc19 => ?_)
  · refine wp_aload_n rfl (ck_get kk_Mc_law 15 rfl) ?_
    refine wp_getR (ck_get kk_Mc_law 16 rfl) fl_Mc_59 (by assumption) (by assumption) ?_
    refine wp_aload_n rfl (ck_get kk_Mc_law 17 rfl) ?_
    refine wp_getR (ck_get kk_Mc_law 18 rfl) fl_Mc_48 (by assumption) (by assumption) ?_
    refine wp_iload_n rfl (ck_get kk_Mc_law 19 rfl) ?_
    refine wp_iconst (v := nI 0) (by decide) (ck_get kk_Mc_law 20 rfl) ?_
    refine wp_cV3i (ck_get kk_Mc_law 21 rfl) ml_Mc_212 (by omega) (Nat.le_of_ble_eq_true rfl) (by assumption) (Ci.to (c_compile (od := false) (f := 12 * (zT z).1 + 6) (bt := (zT z).2) hS (by exact hPa) h400 (fun j hj => (congrFun (s_o (by omega)) j).trans (hPC.2 j hj)) hO.2.2.2.2.1 (Nat.le_refl _)) ?_)
    rintro x M1 ⟨I2, e1, e2, e3⟩
    subst e1
    obtain ⟨rfl, j2, lf2, sg2, nc, q1, q2, q3, q4, q5, q6, q7⟩ | ⟨-, j2, lf2, sg2, q1, -⟩ := e3
    · obtain rfl : sg2 = sg := by rw [show pcF _ _ _ _ _ _ _ _ _ = _ from hp] at q1; exact (Prod.mk.inj (Prod.mk.inj (Prod.mk.inj q1).2).2).2.symm
      have e19b : I2 1 9 = nI (sLn (zS z)) := by rw [e2 1 (by omega)]; exact (congrFun (s_o (by omega)) 9).trans e19
      first | refine wp_if_neN (t := 52) (ck_get kk_Mc_law 22 rfl) (by decide) (by omega) (fun hc42 => ?_) (fun hc42 => ?_) | refine wp_if_ne (t := 52) (ck_get kk_Mc_law 22 rfl) (by decide) (fun hc42 => ?_) (fun hc42 => ?_)
      · refine wp_aload_n rfl (ck_get kk_Mc_law 27 rfl) ?_
        refine wp_getR (ck_get kk_Mc_law 28 rfl) fl_Mc_12 (by assumption) (by assumption) ?_
        refine wp_getR (ck_get kk_Mc_law 29 rfl) fl_Mc_216 (by assumption) (by assumption) ?_
        refine wp_aload_n rfl (ck_get kk_Mc_law 30 rfl) ?_
        refine wp_getR (ck_get kk_Mc_law 31 rfl) fl_Mc_12 (by assumption) (by assumption) ?_
        first | refine wp_getIv (ck_get kk_Mc_law 32 rfl) fl_Mc_194 (by assumption) (by assumption) ?_ | refine wp_getI (ck_get kk_Mc_law 32 rfl) fl_Mc_194 (by assumption) ?_
        refine wp_aload_n rfl (ck_get kk_Mc_law 33 rfl) ?_
        refine wp_getR (ck_get kk_Mc_law 34 rfl) fl_Mc_59 (by assumption) (by assumption) ?_
        refine wp_getR (ck_get kk_Mc_law 35 rfl) fl_Mc_220 (by assumption) (by assumption) ?_
        refine wp_cV0a (ck_get kk_Mc_law 36 rfl) ml_Mc_224 (by omega) (Nat.le_of_ble_eq_true rfl) (by assumption) (Ca.to (c_trimmed (cn := sg2.length) (nc := nc) (by exact hL2.2.2.2.2.2.2.2.2.2.1.2.2.2.1) (by exact z2) (by exact q5) (by exact q3) hsg) ?_)
        rintro y M3 ⟨w0, ⟨w1, w2⟩, w3, w4, w5, w6, w7, w8⟩
        subst w0
        obtain ⟨d1, d2, pf2, pg2, d3⟩ := hCR.law (I2 := I2) (M3 := M3) (cn := sg2.length) (nc := nc) hc hn hsg w1 w2 w3 w4 w5 w8 (fun x q => e2 x (by omega)) q2
        have tM : ∀ x, x < 1020 → mT M3 x = mT M x := fun x q => (w8 x (by show x < mZ M ∨ _; omega)).1
        have t0' : mT M3 0 = (10, 0) := (tM 0 (by omega)).trans t0
        have t1' : mT M3 1 = (6, 0) := (tM 1 (by omega)).trans t1
        have t30' : mT M3 30 = (27, 6) := (tM 30 (by omega)).trans t30
        have tp' : mT M3 (mZ M) = (4, 0) := w3.1
        have r3 : mR M3 0 = up2 (mR M) 924 2 (some 923) 0 := (w8 0 (by show 0 < mZ M ∨ _; omega)).2.2.2
        have r00' : mR (sR M3 30 (sLn (zS z)) (some (mZ M))) 0 0 = some 1 := (congrFun (up2_o (f := mR M3) (a := 30) (x := 0) (k := sLn (zS z)) (v := some (mZ M)) (by omega)) 0).trans ((congrFun r3 0).trans a00)
        have i19 : mI M3 1 9 = nI (sLn (zS z)) := (congrFun (w8 1 (by show 1 < mZ M ∨ _; omega)).2.1 9).trans e19b
        refine wp_aast (b := mZ M) (ck_get kk_Mc_law 37 rfl) t30' (ixk_nI (k := sLn (zS z)) (by omega) (by omega)) tp' ?_
        refine wp_aload_n rfl (ck_get kk_Mc_law 38 rfl) ?_
        refine wp_getR (ck_get kk_Mc_law 39 rfl) fl_Mc_12 (by assumption) (by assumption) ?_
        refine wp_dup rfl (ck_get kk_Mc_law 40 rfl) ?_
        refine wp_getIv (v := nI (sLn (zS z))) (ck_get kk_Mc_law 41 rfl) fl_Mc_194 (by assumption) (i19) ?_
        refine wp_iconst (v := nI 1) (by decide) (ck_get kk_Mc_law 42 rfl) ?_
        first | refine wp_iaddN (ck_get kk_Mc_law 43 rfl) ?_ | refine wp_iadd (ck_get kk_Mc_law 43 rfl) ?_
        refine wp_putI (ck_get kk_Mc_law 44 rfl) fl_Mc_194 (by decide +kernel) (by assumption) (okI_int _) ?_
        refine wp_aload_n rfl (ck_get kk_Mc_law 45 rfl) ?_
        refine wp_aload_n rfl (ck_get kk_Mc_law 46 rfl) ?_
        refine wp_getR (ck_get kk_Mc_law 47 rfl) fl_Mc_12 (by assumption) (by assumption) ?_
        refine wp_getIv (v := nI (sLn (zS z) + 1)) (ck_get kk_Mc_law 48 rfl) fl_Mc_194 (by assumption) (s_v) ?_
        refine wp_iconst (v := nI 1) (by decide) (ck_get kk_Mc_law 49 rfl) ?_
        first | refine wp_isubN (ck_get kk_Mc_law 50 rfl) (by omega) ?_ | refine wp_isub (ck_get kk_Mc_law 50 rfl) ?_
        refine wp_cV1i (ck_get kk_Mc_law 51 rfl) ml_Mc_185 (by omega) (Nat.le_of_ble_eq_true rfl) (by assumption) (Ci.to (c_accept (pf := pf2) (pg := pg2) (by exact d3)) ?_)
        rintro x M5 ⟨f1, f2⟩
        refine wp_ireturn (ck_get kk_Mc_law 52 rfl) rfl rfl ⟨_, rfl, ?_⟩
        rw [f2]
        refine ⟨_, nc, f1.trans (by rw [show sLn (zS z) + 1 - 1 = sLn (zS z) by omega]), ⟨?_, ?_, q4⟩, d1.good, d2.trans MSame.ac⟩
        · refine ChS_e (fun m k m1 k1 k2 => ?_) 12 0 0 0 0 sg2 (by omega) q7
          show I2 (924 + 1 + k) m = mI M3 (mZ M + k) m
          exact (w6 k k1 k2 m m1).symm
        · intro q hq
          rw [Nat.zero_add]
          show mI M3 (mZ M + 7) q = _
          exact (w7 q hq).trans (q6 q hq)
      · exact absurd hc42 (by decide)
    · rw [show pcF _ _ _ _ _ _ _ _ _ = _ from hp] at q1; cases q1
  · omega
theorem c_lawF {c j lf : Nat} {z : ST} {sg : List Int32} (hS : OutOK g) (h : CR c z M) (hO : ZOK c z) (hc : c < 512) (hn : sLn (zS z) < 6) (hp : zPc z false = (false, j, lf, sg)) : CaC g Y_Mc_law [] c M (-6) (zBad (zTp z (zS z) (nI (tS (zT z).2 (zT z).1 j))) 6) := by
  have hCR := h
  have hC' := h.le (Nat.le_succ c)
  obtain ⟨pf, pg, hL, hSC, hTC, hIC, hDC, hPC, hNC, hBC, hZC⟩ := h
  obtain ⟨t0, ⟨r00, hSh⟩, ⟨r01, hTr⟩, ⟨r02, hTg⟩, ⟨r03, hWa⟩, ⟨r04, hWp⟩, ⟨r06, t921, r921a, r921b, hS0, hS1⟩, ⟨r07, t922⟩, ⟨r08, t923⟩, ⟨r010, hPa⟩, ⟨r011, hJu⟩, ⟨r012, hRe⟩, ⟨r013, hCu⟩, ⟨r014, hDe⟩, ⟨r018, t959⟩, hPf⟩ := id hL
  have t1 : mT M 1 = (6, 0) := hSh.1
  have r10 : mR M 1 0 = some 2 := hSh.2.1
  have hW2 : WoAt (mT M) (mR M) 2 := hSh.2.2.1
  have t2 : mT M 2 = (9, 0) := hW2.1
  have r20 : mR M 2 0 = some 3 := hW2.2.1
  have t3 : mT M 3 = (24, 4) := hW2.2.2.1
  have t31 : mT M 31 = (8, 0) := hTr.1
  have t924 : mT M 924 = (3, 0) := hPa.1
  have t934 : mT M 934 = (2, 0) := hJu.1
  have t938 : mT M 938 = (5, 0) := hRe.1
  have t947 : mT M 947 = (0, 0) := hCu.1
  have t952 : mT M 952 = (1, 0) := hDe.1
  have e9 := hPC.1
  have h400 := hO.2.2.2.1
  have e19 : mI M 1 9 = nI (sLn (zS z)) := hSC.2.2.2.2.2.2.2.1
  have hR : ∀ x y, ¬ (x = 924 ∧ y = 2) → up2 (mR M) 924 2 (some 923) x y = mR M x y := fun x y q => by
    unfold up2; rw [if_neg q]
  have hL2 : LayC (mT M) (up2 (mR M) 924 2 (some 923)) pf pg := hL.kk (fun _ _ => rfl) (fun x _ _ _ _ _ y hy => hR x y (fun q => hy q.1 q.2))
  refine cw_entry 1 pf_Mc_law rfl ?_
  refine wp_aload_n rfl (ck_get kk_Mc_law 0 rfl) ?_
  first | refine wp_getIv (ck_get kk_Mc_law 1 rfl) fl_Mc_52 (by assumption) (by assumption) ?_ | refine wp_getI (ck_get kk_Mc_law 1 rfl) fl_Mc_52 (by assumption) ?_
  refine wp_istore_n (ck_get kk_Mc_law 2 rfl) (by decide) rfl ?_
  refine wp_aload_n rfl (ck_get kk_Mc_law 3 rfl) ?_
  refine wp_iconst (v := nI 0) (by decide) (ck_get kk_Mc_law 4 rfl) ?_
  refine wp_putI (ck_get kk_Mc_law 5 rfl) fl_Mc_52 (by decide +kernel) (by assumption) (okI_int _) ?_
  refine wp_aload_n rfl (ck_get kk_Mc_law 6 rfl) ?_
  refine wp_getR (ck_get kk_Mc_law 7 rfl) fl_Mc_12 (by assumption) (by assumption) ?_
  refine wp_getIv (v := nI (sLn (zS z))) (ck_get kk_Mc_law 8 rfl) fl_Mc_194 (by assumption) ((congrFun (s_o (by omega)) 9).trans e19) ?_
  refine wp_bipush (v := nI 6) (by decide) (ck_get kk_Mc_law 9 rfl) ?_
  first | refine wp_icmp_ltN (t := 29) (ck_get kk_Mc_law 10 rfl) (by decide) (by omega) (by omega) (fun hc19 => ?_) (fun hc19 => ?_) | refine wp_icmp_lt (t := 29) (ck_get kk_Mc_law 10 rfl) (by decide) (fun hc19 => ?_) (fun hc19 => ?_)
  · refine wp_aload_n rfl (ck_get kk_Mc_law 15 rfl) ?_
    refine wp_getR (ck_get kk_Mc_law 16 rfl) fl_Mc_59 (by assumption) (by assumption) ?_
    refine wp_aload_n rfl (ck_get kk_Mc_law 17 rfl) ?_
    refine wp_getR (ck_get kk_Mc_law 18 rfl) fl_Mc_48 (by assumption) (by assumption) ?_
    refine wp_iload_n rfl (ck_get kk_Mc_law 19 rfl) ?_
    refine wp_iconst (v := nI 0) (by decide) (ck_get kk_Mc_law 20 rfl) ?_
    refine wp_cV3i (ck_get kk_Mc_law 21 rfl) ml_Mc_212 (by omega) (Nat.le_of_ble_eq_true rfl) (by assumption) (Ci.to (c_compile (od := false) (f := 12 * (zT z).1 + 6) (bt := (zT z).2) hS (by exact hPa) h400 (fun j hj => (congrFun (s_o (by omega)) j).trans (hPC.2 j hj)) hO.2.2.2.2.1 (Nat.le_refl _)) ?_)
    rintro x M1 ⟨I2, e1, e2, e3⟩
    subst e1
    obtain ⟨-, j2, lf2, sg2, nc, q1, -⟩ | ⟨rfl, j2, lf2, sg2, q1, q2⟩ := e3
    · rw [show pcF _ _ _ _ _ _ _ _ _ = _ from hp] at q1; cases q1
    · obtain rfl : j2 = j := by rw [show pcF _ _ _ _ _ _ _ _ _ = _ from hp] at q1; exact (Prod.mk.inj (Prod.mk.inj q1).2).1.symm
      first | refine wp_if_neN (t := 52) (ck_get kk_Mc_law 22 rfl) (by decide) (by omega) (fun hc42 => ?_) (fun hc42 => ?_) | refine wp_if_ne (t := 52) (ck_get kk_Mc_law 22 rfl) (by decide) (fun hc42 => ?_) (fun hc42 => ?_)
      · exact absurd (by decide) hc42
      · refine wp_aload_n rfl (ck_get kk_Mc_law 23 rfl) ?_
        refine wp_bipush (v := (-6)) (by decide) (ck_get kk_Mc_law 24 rfl) ?_
        refine wp_cV1i (ck_get kk_Mc_law 25 rfl) ml_Mc_172 (by omega) (Nat.le_of_ble_eq_true rfl) (by assumption) (Ci.to (c_refuse (k := 6) (pf := pf) (pg := pg) (by decide) (by omega) (by omega) (by exact hL2)) ?_)
        rintro x M1 ⟨e4, e5⟩
        refine wp_ireturn (ck_get kk_Mc_law 26 rfl) rfl rfl ⟨_, rfl, ?_⟩
        rw [e5]
        have fx : ∀ x, x ≠ 0 → x < 924 ∨ 933 ≤ x → I2 x = mI M x := fun x a b => by rw [e2 x (by omega)]; exact s_o a
        have f0 : ∀ y, y ≠ 9 → I2 0 y = mI M 0 y := fun y hy => by rw [e2 0 (by omega)]; exact s_k hy
        have f09 : I2 0 9 = nI 0 := by rw [e2 0 (by omega)]; exact s_v
        have hk2 : HiK (mT M) (mR M) (mI M) (mT M) (up2 (mR M) 924 2 (some 923)) I2 := fun x hx _ => ⟨rfl, funext fun y => hR x y (by omega), fx x (by omega) (by omega)⟩
        have hS2 : ShC (mT M) (up2 (mR M) 924 2 (some 923)) I2 (mJ M) 1 (zS z) := hSC.kept (fun x q1 q2 => ⟨fx x (by omega) (by omega), rfl⟩) (funext fun y => hR 30 y (by omega)) hk2
        have hG := hCR.gen (L2 := 0) (b := zB z) (p := zP z) (cd := zC z) (f := nI (tS (zT z).2 (zT z).1 j2)) (R2 := up2 (mR M) 924 2 (some 923)) (I2 := I2) (J2 := mJ M) hR (fun x q1 q2 q3 q4 => ⟨fx x q2 (by unfold scX at q1; omega), rfl⟩) (f0 5 (by omega)) f09 ((f0 15 (by omega)).trans hNC.1) ((f0 16 (by omega)).trans hNC.2.1) ((f0 17 (by omega)).trans hNC.2.2.1) q2 hS2
        have hms : MSame M (mk5 M I2 (mJ M) (up2 (mR M) 924 2 (some 923))) := fun x a b => ⟨rfl, funext fun y => hR x y (by omega), fx x (by omega) (by omega), rfl⟩
        exact ⟨e4, hG.bad (k := 6) (by omega), hms.trans MSame.bd⟩
  · omega
theorem c_lawN {c : Nat} {z : ST} (h : CR c z M) (hO : ZOK c z) (hc : c < 512) (hn : sLn (zS z) = 6) : CaC g Y_Mc_law [] c M (-5) (zBad (zTp z (zS z) (zF z)) 5) := by
  have hCR := h
  have hC' := h.le (Nat.le_succ c)
  obtain ⟨pf, pg, hL, hSC, hTC, hIC, hDC, hPC, hNC, hBC, hZC⟩ := h
  obtain ⟨t0, ⟨r00, hSh⟩, ⟨r01, hTr⟩, ⟨r02, hTg⟩, ⟨r03, hWa⟩, ⟨r04, hWp⟩, ⟨r06, t921, r921a, r921b, hS0, hS1⟩, ⟨r07, t922⟩, ⟨r08, t923⟩, ⟨r010, hPa⟩, ⟨r011, hJu⟩, ⟨r012, hRe⟩, ⟨r013, hCu⟩, ⟨r014, hDe⟩, ⟨r018, t959⟩, hPf⟩ := id hL
  have t1 : mT M 1 = (6, 0) := hSh.1
  have r10 : mR M 1 0 = some 2 := hSh.2.1
  have hW2 : WoAt (mT M) (mR M) 2 := hSh.2.2.1
  have t2 : mT M 2 = (9, 0) := hW2.1
  have r20 : mR M 2 0 = some 3 := hW2.2.1
  have t3 : mT M 3 = (24, 4) := hW2.2.2.1
  have t31 : mT M 31 = (8, 0) := hTr.1
  have t924 : mT M 924 = (3, 0) := hPa.1
  have t934 : mT M 934 = (2, 0) := hJu.1
  have t938 : mT M 938 = (5, 0) := hRe.1
  have t947 : mT M 947 = (0, 0) := hCu.1
  have t952 : mT M 952 = (1, 0) := hDe.1
  have e9 := hPC.1
  have e19 : mI M 1 9 = nI (sLn (zS z)) := hSC.2.2.2.2.2.2.2.1
  refine cw_entry 1 pf_Mc_law rfl ?_
  refine wp_aload_n rfl (ck_get kk_Mc_law 0 rfl) ?_
  first | refine wp_getIv (ck_get kk_Mc_law 1 rfl) fl_Mc_52 (by assumption) (by assumption) ?_ | refine wp_getI (ck_get kk_Mc_law 1 rfl) fl_Mc_52 (by assumption) ?_
  refine wp_istore_n (ck_get kk_Mc_law 2 rfl) (by decide) rfl ?_
  refine wp_aload_n rfl (ck_get kk_Mc_law 3 rfl) ?_
  refine wp_iconst (v := nI 0) (by decide) (ck_get kk_Mc_law 4 rfl) ?_
  refine wp_putI (ck_get kk_Mc_law 5 rfl) fl_Mc_52 (by decide +kernel) (by assumption) (okI_int _) ?_
  refine wp_aload_n rfl (ck_get kk_Mc_law 6 rfl) ?_
  refine wp_getR (ck_get kk_Mc_law 7 rfl) fl_Mc_12 (by assumption) (by assumption) ?_
  refine wp_getIv (v := nI (sLn (zS z))) (ck_get kk_Mc_law 8 rfl) fl_Mc_194 (by assumption) ((congrFun (s_o (by omega)) 9).trans e19) ?_
  refine wp_bipush (v := nI 6) (by decide) (ck_get kk_Mc_law 9 rfl) ?_
  first | refine wp_icmp_ltN (t := 29) (ck_get kk_Mc_law 10 rfl) (by decide) (by omega) (by omega) (fun hc19 => ?_) (fun hc19 => ?_) | refine wp_icmp_lt (t := 29) (ck_get kk_Mc_law 10 rfl) (by decide) (fun hc19 => ?_) (fun hc19 => ?_)
  · omega
  · refine wp_aload_n rfl (ck_get kk_Mc_law 11 rfl) ?_
    refine wp_bipush (v := (-5)) (by decide) (ck_get kk_Mc_law 12 rfl) ?_
    refine wp_cV1i (ck_get kk_Mc_law 13 rfl) ml_Mc_172 (by omega) (Nat.le_of_ble_eq_true rfl) (by assumption) (Ci.to (c_refuse (k := 5) (pf := pf) (pg := pg) (by decide) (by omega) (by omega) (by exact hL)) ?_)
    rintro x M1 ⟨e4, e5⟩
    refine wp_ireturn (ck_get kk_Mc_law 14 rfl) rfl rfl ⟨_, rfl, ?_⟩
    rw [e5]
    have hG := hCR.tape (I2 := up2 (mI M) 0 9 (nI 0)) (t := (0, (zT z).2)) (fun x q1 q2 => up2_o q1) (fun k hk => up2_k hk) up2_v (fun j hj => by rw [up2_o (by omega)]; exact hPC.2 j hj)
    exact ⟨e4, hG.bad (k := 5) (by omega), (MSame.s (by omega)).trans MSame.bd⟩
end LWM
