/-! ===== orders, by the model ===== -/
section ORM
variable {g : Gl} {M : Mem}
theorem c_ordersF {c j lf : Nat} {z : ST} {sg : List Int32} (hS : OutOK g) (h : CR c z M) (hO : ZOK c z) (hc : c < 512) (hp : zPc z true = (false, j, lf, sg)) : CaC g Y_Mc_orders [] c M (-6) (zBad (zSt z (-1) (nI (tS (zT z).2 (zT z).1 j))) 6) := by
  have hCR := h
  have hC' := h.le (Nat.le_succ c)
  obtain ⟨pf, pg, hL, hSC, hTC, hIC, hDC, hPC, hNC, hBC, hZC⟩ := h
  obtain ⟨t0, ⟨r00, hSh⟩, ⟨r01, hTr⟩, ⟨r02, hTg⟩, ⟨r03, hWa⟩, ⟨r04, hWp⟩, ⟨r06, t921, r921a, r921b, hS0, hS1⟩, ⟨r07, t922⟩, ⟨r08, t923⟩, ⟨r010, hPa⟩, ⟨r011, hJu⟩, ⟨r012, hRe⟩, ⟨r013, hCu⟩, ⟨r014, hDe⟩, ⟨r018, t959⟩, hPf⟩ := id hL
  have t1 : mT M 1 = (6, 0) := hSh.1
  have r10 : mR M 1 0 = some 2 := hSh.2.1
  have hW2 : WoAt (mT M) (mR M) 2 := hSh.2.2.1
  have t2 : mT M 2 = (9, 0) := hW2.1
  have r20 : mR M 2 0 = some 3 := hW2.2.1
  have t3 : mT M 3 = (24, 4) := hW2.2.2.1
  have t31 : mT M 31 = (8, 0) := hTr.1
  have t924 : mT M 924 = (3, 0) := hPa.1
  have t934 : mT M 934 = (2, 0) := hJu.1
  have t938 : mT M 938 = (5, 0) := hRe.1
  have t947 : mT M 947 = (0, 0) := hCu.1
  have t952 : mT M 952 = (1, 0) := hDe.1
  have e9 := hPC.1
  have h400 := hO.2.2.2.1
  have hR : ∀ x y, ¬ (x = 924 ∧ y = 2) → up2 (mR M) 924 2 (some 923) x y = mR M x y := fun x y q => by
    unfold up2; rw [if_neg q]
  have hL2 : LayC (mT M) (up2 (mR M) 924 2 (some 923)) pf pg := hL.kk (fun _ _ => rfl) (fun x _ _ _ _ _ y hy => hR x y (fun q => hy q.1 q.2))
  refine cw_entry 6 pf_Mc_orders rfl ?_
  refine wp_aload_n rfl (ck_get kk_Mc_orders 0 rfl) ?_
  first | refine wp_getIv (ck_get kk_Mc_orders 1 rfl) fl_Mc_52 (by assumption) (by assumption) ?_ | refine wp_getI (ck_get kk_Mc_orders 1 rfl) fl_Mc_52 (by assumption) ?_
  refine wp_istore_n (ck_get kk_Mc_orders 2 rfl) (by decide) rfl ?_
  refine wp_aload_n rfl (ck_get kk_Mc_orders 3 rfl) ?_
  refine wp_iconst (v := nI 0) (by decide) (ck_get kk_Mc_orders 4 rfl) ?_
  refine wp_putI (ck_get kk_Mc_orders 5 rfl) fl_Mc_52 (by decide +kernel) (by assumption) (okI_int _) ?_
  refine wp_aload_n rfl (ck_get kk_Mc_orders 6 rfl) ?_
  refine wp_iconst (v := (-1)) (by decide) (ck_get kk_Mc_orders 7 rfl) ?_
  refine wp_putI (ck_get kk_Mc_orders 8 rfl) fl_Mc_94 (by decide +kernel) (by assumption) (okI_int _) ?_
  refine wp_aload_n rfl (ck_get kk_Mc_orders 9 rfl) ?_
  refine wp_getR (ck_get kk_Mc_orders 10 rfl) fl_Mc_59 (by assumption) (by assumption) ?_
  refine wp_aload_n rfl (ck_get kk_Mc_orders 11 rfl) ?_
  refine wp_getR (ck_get kk_Mc_orders 12 rfl) fl_Mc_48 (by assumption) (by assumption) ?_
  refine wp_iload_n rfl (ck_get kk_Mc_orders 13 rfl) ?_
  refine wp_iconst (v := nI 1) (by decide) (ck_get kk_Mc_orders 14 rfl) ?_
  refine wp_cV3i (ck_get kk_Mc_orders 15 rfl) ml_Mc_212 (by omega) (Nat.le_of_ble_eq_true rfl) (by assumption) (Ci.to (c_compile (od := true) (f := 12 * (zT z).1 + 6) (bt := (zT z).2) hS (by exact hPa) h400 (fun j hj => (congrFun (s_o (by omega)) j).trans ((congrFun (s_o (by omega)) j).trans (hPC.2 j hj))) hO.2.2.2.2.1 (Nat.le_refl _)) ?_)
  rintro x M1 ⟨I2, e1, e2, e3⟩
  subst e1
  obtain ⟨-, j2, lf2, sg2, nc, q1, -⟩ | ⟨rfl, j2, lf2, sg2, q1, q2⟩ := e3
  · rw [show pcF _ _ _ _ _ _ _ _ _ = _ from hp] at q1; cases q1
  · obtain rfl : j2 = j := by rw [show pcF _ _ _ _ _ _ _ _ _ = _ from hp] at q1; exact (Prod.mk.inj (Prod.mk.inj q1).2).1.symm
    first | refine wp_if_neN (t := 38) (ck_get kk_Mc_orders 16 rfl) (by decide) (by omega) (fun hc28 => ?_) (fun hc28 => ?_) | refine wp_if_ne (t := 38) (ck_get kk_Mc_orders 16 rfl) (by decide) (fun hc28 => ?_) (fun hc28 => ?_)
    · exact absurd (by decide) hc28
    · refine wp_aload_n rfl (ck_get kk_Mc_orders 17 rfl) ?_
      refine wp_bipush (v := (-6)) (by decide) (ck_get kk_Mc_orders 18 rfl) ?_
      refine wp_cV1i (ck_get kk_Mc_orders 19 rfl) ml_Mc_172 (by omega) (Nat.le_of_ble_eq_true rfl) (by assumption) (Ci.to (c_refuse (k := 6) (pf := pf) (pg := pg) (by decide) (by omega) (by omega) (by exact hL2)) ?_)
      rintro x M1 ⟨e4, e5⟩
      refine wp_ireturn (ck_get kk_Mc_orders 20 rfl) rfl rfl ⟨_, rfl, ?_⟩
      rw [e5]
      have fx : ∀ x, x ≠ 0 → x < 924 ∨ 933 ≤ x → I2 x = mI M x := fun x a b => by rw [e2 x (by omega)]; exact (s_o a).trans (s_o a)
      have f0 : ∀ y, y ≠ 9 → y ≠ 16 → I2 0 y = mI M 0 y := fun y a b => by rw [e2 0 (by omega)]; exact (s_k b).trans (s_k a)
      have f09 : I2 0 9 = nI 0 := by rw [e2 0 (by omega)]; exact (s_k (by omega)).trans s_v
      have f016 : I2 0 16 = -1 := by rw [e2 0 (by omega)]; exact s_v
      have hk2 : HiK (mT M) (mR M) (mI M) (mT M) (up2 (mR M) 924 2 (some 923)) I2 := fun x hx _ => ⟨rfl, funext fun y => hR x y (by omega), fx x (by omega) (by omega)⟩
      have hS2 : ShC (mT M) (up2 (mR M) 924 2 (some 923)) I2 (mJ M) 1 (zS z) := hSC.kept (fun x q1 q2 => ⟨fx x (by omega) (by omega), rfl⟩) (funext fun y => hR 30 y (by omega)) hk2
      have hG := hCR.gen (L2 := 0) (b := zB z) (p := -1) (cd := zC z) (f := nI (tS (zT z).2 (zT z).1 j2)) (R2 := up2 (mR M) 924 2 (some 923)) (I2 := I2) (J2 := mJ M) hR (fun x q1 q2 q3 q4 => ⟨fx x q2 (by unfold scX at q1; omega), rfl⟩) (f0 5 (by omega) (by omega)) f09 ((f0 15 (by omega) (by omega)).trans hNC.1) f016 ((f0 17 (by omega) (by omega)).trans hNC.2.2.1) q2 hS2
      have hms : MSame M (mk5 M I2 (mJ M) (up2 (mR M) 924 2 (some 923))) := fun x a b => ⟨rfl, funext fun y => hR x y (by omega), fx x (by omega) (by omega), rfl⟩
      exact ⟨e4, hG.bad (k := 6) (by omega), hms.trans MSame.bd⟩
/-- no clause stopped yet -/
theorem MR.stop {z : ST} {v : Int32} (h : MR z M) : MR (zS z, zU z, zI z, zD z, zT z, (zB z, v, zC z, zF z), zR z, zG z) (sI M 1020 54 v) := by
  have hn := h.2.2.2.2.2.2.1
  obtain ⟨a1, a2, a3, a4, a5, a6⟩ := hn
  exact h.own (I2 := up2 (mI M) 1020 54 v) (fun x q1 q2 => up2_o q1) (fun k hk => up2_k (by omega)) (by rw [up2_k (by omega)]; exact a5) (by rw [up2_k (by omega)]; exact a1) up2_v (by rw [up2_k (by omega)]; exact a3) (by rw [up2_k (by omega)]; exact a4) (fun j hj => by rw [up2_o (by omega)]; exact a6 j hj)
/-- the model's memory as the orders begin -/
def OrB (M M5 : Mem) (N : Nat) (C V : Nat → Int32) : Prop := (∃ I5 J5, M5 = mk2 M I5 J5) ∧ (∀ k, k ≠ 11 → k ≠ 12 → k ≠ 13 → k ≠ 16 → k ≠ 17 → k ≠ 21 → k ≠ 22 → k ≠ 23 → k ≠ 24 → k ≠ 30 → k ≠ 31 → k ≠ 54 → k ≠ 55 → mI M5 1020 k = mI M 1020 k) ∧ (mI M5 1020 16 = nI 0 ∧ mI M5 1020 17 = -1 ∧ mI M5 1020 54 = -1 ∧ mI M5 1020 30 = nI 0 ∧ mI M5 1020 31 = -1 ∧ mI M5 1020 55 = nI 2400) ∧ mI M5 1022 = lyK (mI M 1022) C V N 6 N ∧ (∀ y, y < 369 → mI M5 1027 (369 + y) = mI M 1022 y) ∧ (∀ y, y < 100 → mJ M5 1028 (100 + y) = mJ M 1023 y) ∧ (∀ y, y < 5920 → mI M5 1038 y = mI M 1036 y) ∧ (∀ y, y < 1600 → mJ M5 1039 y = mJ M 1037 y) ∧ (∀ x, x ≠ 1020 → x ≠ 1022 → x ≠ 1027 → x ≠ 1032 → x ≠ 1033 → x ≠ 1034 → x ≠ 1038 → mI M5 x = mI M x) ∧ ∀ x, x ≠ 1028 → x ≠ 1039 → mJ M5 x = mJ M x
theorem m_ordB {z : ST} {c j lf : Nat} {sg : List Int32} (h : MR z M) (hO : ZOK c z) (hp : zPc z true = (true, j, lf, sg)) {Q : Option Value → Mem → Prop}
    (Kc : ∀ N C V P M5, N ≤ 400 → (∀ i, i ≤ N → LxT (zT z).2 (zT z).1 C V P i) → (∀ i, i < N ↔ tS (zT z).2 (zT z).1 i < (zT z).1) → OrB M M5 N C V → Wp g Y_Mo_orders 300 89 [some (.ref 1020), some (.int (nI (zU z).1)), some (.int (nI (2400 + N))), some (.int (nI 0))] [] M5 Q) :
    Wp g Y_Mo_orders 300 0 [some (.ref 1020), none, none, none] [] M Q := by
  obtain ⟨hM, hSM, hUM, hIM, hDM, hPM, hNM, hBM⟩ := id h
  have to0 := hM.1
  have rfleft0 := MoAt.r hM 15 rfl
  have tfleft0 := MoAt.t hM 15 rfl
  have rfleftParts := MoAt.r hM 16 rfl
  have tfleftParts := MoAt.t hM 16 rfl
  have rfleftAhead := MoAt.r hM 17 rfl
  have tfleftAhead := MoAt.t hM 17 rfl
  have rfleftPartsAhead := MoAt.r hM 18 rfl
  have tfleftPartsAhead := MoAt.t hM 18 rfl
  have rfkept := MoAt.r hM 1 rfl
  have tfkept := MoAt.t hM 1 rfl
  have h36 : mI M 1020 36 = nI (zU z).1 := hUM.1
  refine wp_aload_n rfl (ck_get kk_Mo_orders 0 rfl) ?_
  refine wp_iconst (v := (-1)) (by decide) (ck_get kk_Mo_orders 1 rfl) ?_
  refine wp_putI (ck_get kk_Mo_orders 2 rfl) fl_Mo_130 (by decide +kernel) (by assumption) (okI_int _) ?_
  refine wp_aload_n rfl (ck_get kk_Mo_orders 3 rfl) ?_
  refine wp_iconst (v := nI 1) (by decide) (ck_get kk_Mo_orders 4 rfl) ?_
  refine wp_cV1i (ck_get kk_Mo_orders 5 rfl) ml_Mo_281 (by omega) (Nat.le_of_ble_eq_true rfl) (by assumption) (Ci.to (m_readsT (od := true) (c := c) h.stop (by exact hO)) ?_)
  rintro x M1 ⟨N, C, V, P, I2, q1, q2, q3, e1, q5, q6⟩
  subst e1
  obtain ⟨j2, lf2, sg2, -, rfl, f17⟩ | ⟨j2, lf2, sg2, u1, -⟩ := q6
  · obtain ⟨r1, r2, r3, r4, r5, r6⟩ := id q5
    have r1' : ∀ x, x ≠ 1020 → x ≠ 1032 → x ≠ 1033 → x ≠ 1034 → I2 x = mI M x := fun x a b c d => (r1 x a b c d).trans (s_o a)
    first | refine wp_if_neN (t := 20) (ck_get kk_Mo_orders 6 rfl) (by decide) (by omega) (fun hc10 => ?_) (fun hc10 => ?_) | refine wp_if_ne (t := 20) (ck_get kk_Mo_orders 6 rfl) (by decide) (fun hc10 => ?_) (fun hc10 => ?_)
    · refine wp_aload_n rfl (ck_get kk_Mo_orders 11 rfl) ?_
      refine wp_iconst (v := nI 1) (by decide) (ck_get kk_Mo_orders 12 rfl) ?_
      refine wp_cV1v (ck_get kk_Mo_orders 13 rfl) ml_Mo_508 (by omega) (Nat.le_of_ble_eq_true rfl) (by assumption) (Cv.to (m_laysAside (t := 1) (by exact hM) (by omega)) ?_)
      rintro M2 e2
      rw [show up1 (mI (mk2 (sI M 1020 54 (-1)) I2 (mJ (sI M 1020 54 (-1))))) (1020 + 7) (cpL (mI (mk2 (sI M 1020 54 (-1)) I2 (mJ (sI M 1020 54 (-1)))) (1020 + 7)) (mI (mk2 (sI M 1020 54 (-1)) I2 (mJ (sI M 1020 54 (-1)))) (1020 + 2)) (369 * 1) 0 369) = up1 I2 1027 (cpL (I2 1027) (I2 1022) (369 * 1) 0 369) from rfl] at e2
      rw [show up1 (mJ (mk2 (sI M 1020 54 (-1)) I2 (mJ (sI M 1020 54 (-1))))) (1020 + 8) (cpL (mJ (mk2 (sI M 1020 54 (-1)) I2 (mJ (sI M 1020 54 (-1)))) (1020 + 8)) (mJ (mk2 (sI M 1020 54 (-1)) I2 (mJ (sI M 1020 54 (-1)))) (1020 + 3)) (100 * 1) 0 100) = up1 (mJ M) 1028 (cpL (mJ M 1028) (mJ M 1023) (100 * 1) 0 100) from rfl] at e2
      generalize hI3 : up1 I2 1027 (cpL (I2 1027) (I2 1022) (369 * 1) 0 369) = I3 at e2
      generalize hJ3 : up1 (mJ M) 1028 (cpL (mJ M 1028) (mJ M 1023) (100 * 1) 0 100) = J3 at e2
      have e2' : M2 = mk2 M I3 J3 := e2
      subst e2'
      have i3 : ∀ x, x ≠ 1027 → I3 x = I2 x := fun x hx => by rw [← hI3, up1_ne hx]
      have i3a : ∀ y, y < 369 → I3 1027 (369 + y) = mI M 1022 y := fun y hy => by
        rw [← hI3, up1_eq]
        unfold cpL
        rw [if_pos (by omega), r1' 1022 (by omega) (by omega) (by omega) (by omega), show 0 + (369 + y - 369 * 1) = y by omega]
      have j3 : ∀ x, x ≠ 1028 → J3 x = mJ M x := fun x hx => by rw [← hJ3, up1_ne hx]
      have j3a : ∀ y, y < 100 → J3 1028 (100 + y) = mJ M 1023 y := fun y hy => by
        rw [← hJ3, up1_eq]
        unfold cpL
        rw [if_pos (by omega), show 0 + (100 + y - 100 * 1) = y by omega]
      refine wp_aload_n rfl (ck_get kk_Mo_orders 14 rfl) ?_
      refine wp_aload_n rfl (ck_get kk_Mo_orders 15 rfl) ?_
      refine wp_getR (ck_get kk_Mo_orders 16 rfl) fl_Mo_82 (by assumption) (by assumption) ?_
      refine wp_aload_n rfl (ck_get kk_Mo_orders 17 rfl) ?_
      refine wp_getR (ck_get kk_Mo_orders 18 rfl) fl_Mo_85 (by assumption) (by assumption) ?_
      refine wp_aload_n rfl (ck_get kk_Mo_orders 19 rfl) ?_
      refine wp_getR (ck_get kk_Mo_orders 20 rfl) fl_Mo_76 (by assumption) (by assumption) ?_
      refine wp_aload_n rfl (ck_get kk_Mo_orders 21 rfl) ?_
      refine wp_getR (ck_get kk_Mo_orders 22 rfl) fl_Mo_79 (by assumption) (by assumption) ?_
      refine wp_cV4v (ck_get kk_Mo_orders 23 rfl) ml_Mo_511 (by omega) (Nat.le_of_ble_eq_true rfl) (by assumption) (Cv.to (m_laysUndone (a := 1020 + 18) (b := 1020 + 19) (c := 1020 + 16) (d := 1020 + 17) (by exact tfleftAhead) (by exact tfleftPartsAhead) (by exact tfleft0) (by exact tfleftParts) (by omega) (by omega)) ?_)
      rintro M3 e3
      generalize hI4 : up1 I3 1038 (cpL (I3 1038) (I3 1036) 0 0 5920) = I4
      generalize hJ4 : up1 J3 1039 (cpL (J3 1039) (J3 1037) 0 0 1600) = J4
      have e3' : M3 = mk2 M I4 J4 := by rw [e3, ← hI4, ← hJ4]
      clear e3
      subst e3'
      have i4 : ∀ x, x ≠ 1027 → x ≠ 1038 → I4 x = I2 x := fun x a b => by rw [← hI4, up1_ne b, i3 x a]
      have i4a : ∀ y, y < 369 → I4 1027 (369 + y) = mI M 1022 y := fun y hy => by rw [← hI4, up1_ne (by omega)]; exact i3a y hy
      have i4b : ∀ y, y < 5920 → I4 1038 y = mI M 1036 y := fun y hy => by
        rw [← hI4, up1_eq]
        unfold cpL
        rw [if_pos (by omega), i3 1036 (by omega), r1' 1036 (by omega) (by omega) (by omega) (by omega), show 0 + (y - 0) = y by omega]
      have j4 : ∀ x, x ≠ 1028 → x ≠ 1039 → J4 x = mJ M x := fun x a b => by rw [← hJ4, up1_ne b, j3 x a]
      have j4a : ∀ y, y < 100 → J4 1028 (100 + y) = mJ M 1023 y := fun y hy => by rw [← hJ4, up1_ne (by omega)]; exact j3a y hy
      have j4b : ∀ y, y < 1600 → J4 1039 y = mJ M 1037 y := fun y hy => by
        rw [← hJ4, up1_eq]
        unfold cpL
        rw [if_pos (by omega), j3 1037 (by omega), show 0 + (y - 0) = y by omega]
      have f4 : I4 1020 = I2 1020 := i4 1020 (by omega) (by omega)
      have g36 : I4 1020 36 = nI (zU z).1 := by rw [f4, r2 36 (by omega) (by omega) (by omega) (by omega) (by omega) (by omega) (by omega) (by omega) (by omega)]; exact (s_k (by omega)).trans h36
      have g21 : I4 1020 21 = nI N := by rw [f4]; exact r4
      refine wp_aload_n rfl (ck_get kk_Mo_orders 24 rfl) ?_
      refine wp_getIv (v := nI (zU z).1) (ck_get kk_Mo_orders 25 rfl) fl_Mo_11 (by assumption) (g36) ?_
      refine wp_istore_n (ck_get kk_Mo_orders 26 rfl) (by decide) rfl ?_
      refine wp_aload_n rfl (ck_get kk_Mo_orders 27 rfl) ?_
      refine wp_bipush (v := nI 6) (by decide) (ck_get kk_Mo_orders 28 rfl) ?_
      refine wp_cV1v (ck_get kk_Mo_orders 29 rfl) ml_Mo_285 (by omega) (Nat.le_of_ble_eq_true rfl) (by assumption) (Cv.to (m_lays (N := N) (t := 6) (by exact hM) (by exact g21) q1 (by omega)) ?_)
      rintro M4 e4
      generalize hI5 : up1 I4 1022 (lyK (mI M 1022) C V N 6 N) = I5
      have e4' : M4 = mk2 M I5 J4 := by
        rw [e4, ← hI5]
        show mk2 M (up1 I4 (1020 + 2) (lyK (I4 (1020 + 2)) (I4 (1020 + 12)) (I4 (1020 + 13)) N 6 N)) J4 = _
        rw [i4 (1020 + 2) (by omega) (by omega), i4 (1020 + 12) (by omega) (by omega), i4 (1020 + 13) (by omega) (by omega), show I2 (1020 + 12) = C from r5, show I2 (1020 + 13) = V from r6, r1' (1020 + 2) (by omega) (by omega) (by omega) (by omega)]
      clear e4
      subst e4'
      have i5 : ∀ x, x ≠ 1022 → I5 x = I4 x := fun x a => by rw [← hI5, up1_ne a]
      have i5a : I5 1022 = lyK (mI M 1022) C V N 6 N := by rw [← hI5, up1_eq]
      have k394 : I5 (1020 + 2) 394 = nI N := by
        rw [show I5 (1020 + 2) = _ from i5a]
        unfold lyK
        rw [if_pos rfl]
      refine wp_aload_n rfl (ck_get kk_Mo_orders 30 rfl) ?_
      refine wp_iconst (v := nI 0) (by decide) (ck_get kk_Mo_orders 31 rfl) ?_
      refine wp_putI (ck_get kk_Mo_orders 32 rfl) fl_Mo_330 (by decide +kernel) (by assumption) (okI_int _) ?_
      refine wp_aload_n rfl (ck_get kk_Mo_orders 33 rfl) ?_
      refine wp_iconst (v := (-1)) (by decide) (ck_get kk_Mo_orders 34 rfl) ?_
      refine wp_putI (ck_get kk_Mo_orders 35 rfl) fl_Mo_333 (by decide +kernel) (by assumption) (okI_int _) ?_
      refine wp_aload_n rfl (ck_get kk_Mo_orders 36 rfl) ?_
      refine wp_sipush (v := nI 2400) (by decide) (ck_get kk_Mo_orders 37 rfl) ?_
      refine wp_putI (ck_get kk_Mo_orders 38 rfl) fl_Mo_515 (by decide +kernel) (by assumption) (okI_int _) ?_
      refine wp_aload_n rfl (ck_get kk_Mo_orders 39 rfl) ?_
      refine wp_getIv (v := nI 2400) (ck_get kk_Mo_orders 40 rfl) fl_Mo_515 (by assumption) (s_v) ?_
      refine wp_aload_n rfl (ck_get kk_Mo_orders 41 rfl) ?_
      refine wp_getR (ck_get kk_Mo_orders 42 rfl) fl_Mo_28 (by assumption) (by assumption) ?_
      refine wp_sipush (v := nI 394) (by decide) (ck_get kk_Mo_orders 43 rfl) ?_
      refine wp_ialdv (v := nI N) (ck_get kk_Mo_orders 44 rfl) (by assumption) (ixk_nI (k := 394) (by omega) (by omega)) ((congrFun (s_o (by omega)) 394).trans ((congrFun (s_o (by omega)) 394).trans ((congrFun (s_o (by omega)) 394).trans k394))) ?_
      first | refine wp_iaddN (ck_get kk_Mo_orders 45 rfl) ?_ | refine wp_iadd (ck_get kk_Mo_orders 45 rfl) ?_
      refine wp_istore_n (ck_get kk_Mo_orders 46 rfl) (by decide) rfl ?_
      refine wp_iconst (v := nI 0) (by decide) (ck_get kk_Mo_orders 47 rfl) ?_
      refine wp_istore_n (ck_get kk_Mo_orders 48 rfl) (by decide) rfl ?_
      refine Kc N C V P _ q1 q2 q3 ?_
      generalize hI6 : up2 (up2 (up2 I5 1020 30 (nI 0)) 1020 31 (-1)) 1020 55 (nI 2400) = I6
      have eM6 : sI (sI (sI (mk2 M I5 J4) 1020 30 (nI 0)) 1020 31 (-1)) 1020 55 (nI 2400) = mk2 M I6 J4 := by rw [← hI6]
      rw [eM6]
      have i6 : ∀ x, x ≠ 1020 → I6 x = I5 x := fun x a => by rw [← hI6, up2_o a, up2_o a, up2_o a]
      have f6 : ∀ k, k ≠ 30 → k ≠ 31 → k ≠ 55 → I6 1020 k = I2 1020 k := fun k a b d => by rw [← hI6, up2_k d, up2_k b, up2_k a, i5 1020 (by omega), f4]
      refine ⟨⟨I6, J4, rfl⟩, fun k a1 a2 a3 a4 a5 a6 a7 a8 a9 a10 a11 a12 a13 => ?_, ⟨?_, ?_, ?_, ?_, ?_, ?_⟩, ?_, fun y hy => ?_, j4a, fun y hy => ?_, j4b, fun x b1 b2 b3 b4 b5 b6 b7 => ?_, j4⟩
      · show I6 1020 k = _
        rw [f6 k a10 a11 a13, r2 k a1 a2 a3 a4 a5 a6 a7 a8 a9]; exact s_k a12
      · exact (f6 16 (by omega) (by omega) (by omega)).trans r3
      · exact (f6 17 (by omega) (by omega) (by omega)).trans f17
      · exact (f6 54 (by omega) (by omega) (by omega)).trans ((r2 54 (by omega) (by omega) (by omega) (by omega) (by omega) (by omega) (by omega) (by omega) (by omega)).trans s_v)
      · show I6 1020 30 = _
        rw [← hI6, up2_k (by omega), up2_k (by omega), up2_v]
      · show I6 1020 31 = _
        rw [← hI6, up2_k (by omega), up2_v]
      · show I6 1020 55 = _
        rw [← hI6, up2_v]
      · exact (i6 1022 (by omega)).trans i5a
      · show I6 1027 (369 + y) = _
        rw [i6 1027 (by omega), i5 1027 (by omega)]; exact i4a y hy
      · show I6 1038 y = _
        rw [i6 1038 (by omega), i5 1038 (by omega)]; exact i4b y hy
      · show I6 x = _
        rw [i6 x b1, i5 x b2, i4 x b3 b7, r1' x b1 b4 b5 b6]
    · exact absurd hc10 (by decide)
  · rw [show zPc _ true = _ from hp] at u1; cases u1
end ORM
