/-! ===== orders ===== -/
section ORN
variable {g : Gl} {M : Mem}
theorem wk_all : wkM (ubM (lgM M 1020 (mJ M (1020 + 34))) 1020 (mI M (1020 + 16)) (mJ M (1020 + 17))) 1020 (mI M (1020 + 2)) (mJ M (1020 + 3)) (mI M (1020 + 15)) (mI M 1020) = M := by
  have e1 : lgM M 1020 (mJ M (1020 + 34)) = M := mk2_ext (M := M) rfl (up1_id rfl)
  rw [e1, show ubM M 1020 (mI M (1020 + 16)) (mJ M (1020 + 17)) = M from mk2_ext (M := M) (up1_id rfl) (up1_id rfl), wk_id]
theorem OrB.mr {z : ST} {c N : Nat} {C V : Nat → Int32} {M5 : Mem} (h : MR z M) (hO : ZOK c z) (hN : N ≤ 400) (hB : OrB M M5 N C V) : MR (zSt z (-1) (-1)) M5 := by
  obtain ⟨⟨I5, J5, rfl⟩, b2, ⟨b16, b17, b54, b30, b31, b55⟩, b4, b5, b6, b7, b8, b9, b10⟩ := hB
  have hNM := h.2.2.2.2.2.2.1
  have hSM := h.2.1
  refine h.gen (I2 := I5) (J2 := J5) (L2 := 0) (s2 := zS z) (b := zB z) (p := -1) (cd := zC z) (f := -1) (fun x q => b9 x (by unfold moK at q; omega) (by unfold moK at q; omega) (by unfold moK at q; omega) (by unfold moK at q; omega) (by unfold moK at q; omega) (by unfold moK at q; omega) (by unfold moK at q; omega)) (fun x q => b10 x (by omega) (by omega)) (fun k hk => b2 k (by omega) (by omega) (by omega) (by omega) (by omega) (by omega) (by omega) (by omega) (by omega) (by omega) (by omega) (by omega) (by omega)) ?_ b16 ?_ b54 ?_ b17 ?_
  · rw [show I5 1020 27 = _ from b2 27 (by omega) (by omega) (by omega) (by omega) (by omega) (by omega) (by omega) (by omega) (by omega) (by omega) (by omega) (by omega) (by omega)]; exact hNM.2.2.2.2.1
  · rw [show I5 1020 9 = _ from b2 9 (by omega) (by omega) (by omega) (by omega) (by omega) (by omega) (by omega) (by omega) (by omega) (by omega) (by omega) (by omega) (by omega)]; exact hNM.1
  · rw [show I5 1020 0 = _ from b2 0 (by omega) (by omega) (by omega) (by omega) (by omega) (by omega) (by omega) (by omega) (by omega) (by omega) (by omega) (by omega) (by omega)]; exact hNM.2.2.1
  · rw [show I5 1022 = _ from b4, show J5 1023 = _ from b10 1023 (by omega) (by omega)]
    obtain ⟨s1, s2, s3, s4, s5, s6, s7, s8, s9, s10⟩ := hSM
    have h6 := hO.1.2.2.2.2.2.2.1
    have hln := hO.1.2.2.2.2.2.2.2.2.1
    have eK : ∀ x, x < 394 → lyK (mI M 1022) C V N 6 N x = mI M 1022 x := fun x hx => by
      unfold lyK
      rw [if_neg (by omega), if_neg (by omega), if_neg (by omega)]
    refine ⟨s1.kept hO.1.1 (fun x a b => eK x (by omega)) (fun x _ _ => rfl), by rw [eK _ (by omega)]; exact s2, fun i hi => by rw [eK _ (by omega), eK _ (by omega)]; exact s3 i hi, by rw [eK _ (by omega)]; exact s4, by rw [eK _ (by omega)]; exact s5, by rw [eK _ (by omega)]; exact s6, by rw [eK _ (by omega)]; exact s7, by rw [eK _ (by omega)]; exact s8, by rw [eK _ (by omega)]; exact s9, fun i hi => (s10 i hi).at (eK _ (by omega)) (fun x hx => ?_)⟩
    unfold lyK
    rw [if_neg (by omega), if_neg (by omega), if_neg (by omega), if_neg (by omega), if_neg (by omega), if_neg (by omega)]
    exact ⟨rfl, rfl⟩
theorem OrB.cs {N : Nat} {C V : Nat → Int32} {M5 : Mem} (hB : OrB M M5 N C V) : CSame M M5 := by
  obtain ⟨⟨I5, J5, rfl⟩, -, -, -, -, -, -, -, b9, b10⟩ := hB
  exact CSame.mk2 (fun x q => ⟨b9 x (by omega) (by omega) (by omega) (by omega) (by omega) (by omega) (by omega), b10 x (by omega) (by omega)⟩)
theorem m_ordersT {z : ST} {c j lf nc : Nat} {sg : List Int32} {C : Nat → Int32} {E : Nat → Nat → Int32} (h : MR z M) (hO : ZOK c z) (hc : c < 512) (hp : zPc z true = (true, j, lf, sg)) (hF : OrF z sg C E nc) : CaM g Y_Mo_orders [] M (ordX (zOr z sg C E nc)) (ordZ z (zOr z sg C E nc)) := by
  have hsg := sg_1024 hO.2.2.2.1 hp
  have hbc : bC c < 400000000 := by unfold bC; omega
  have hM := h.1
  have hn16 := hO.2.1.1
  refine cw_entry 3 pf_Mo_orders rfl ?_
  refine m_ordB (c := c) h hO hp (fun N Ck Vk Pk M5 hN hT hS hB => ?_)
  have hR5 := hB.mr h hO hN
  have hC5 := hB.cs
  obtain ⟨⟨I5, J5, eM5⟩, b2, ⟨b16, b17, b54, b30, b31, b55⟩, b4, b5, b6, b7, b8, b9, b10⟩ := hB
  have hM5 := hR5.1
  have hTk : TkO (mI M5 1022) (2400 + N) 2400 N (tC (zT z).2 (zT z).1) (tV (zT z).2 (zT z).1) := by
    refine ⟨rfl, by omega, fun i hi => ?_, fun i hi => (hS i).mpr (tC_lt hi), fun i => tC_400 hO.2.2.2.2.1⟩
    obtain ⟨x1, x2, x3⟩ := hT i (by omega)
    rw [b4]
    unfold lyK
    rw [if_neg (by omega), if_pos (by omega), if_neg (by omega), if_neg (by omega), if_pos (by omega), show 395 + (2400 + i) - (395 + 400 * 6) = i by omega, show 3195 + (2400 + i) - (3195 + 400 * 6) = i by omega]
    exact ⟨x1, x2⟩
  have hMoN : MoN (mI M5 1022) (zRes z) (sMd (zS z)) (sSl (zS z)) := hR5.2.1.n hO.1
  have h0 : MoO M5 1020 (mI M5 1022) (up1 (mI M5 1020) 55 (nI (2400 + 0))) (zU z) (zOS z) M5 := by
    refine ⟨mJ M5 (1020 + 34), mI M5 (1020 + 16), mJ M5 (1020 + 17), mI M5 (1020 + 2), mJ M5 (1020 + 3), mI M5 (1020 + 15), mI M5 1020, wk_all.symm, hR5.2.1.1, hR5.2.2.1.2, fun _ _ => rfl, hR5.2.2.1.1, b30, b31, hR5.2.2.2.2.2.2.1.2.2.2.2.1, fun k _ _ _ _ => ?_⟩
    by_cases e : k = 55
    · subst e; rw [up1_eq]; exact b55
    · rw [up1_ne e]
  have hlt : ∀ i, i ≤ (zT z).1 → True := fun _ _ => trivial
  refine Wp.le (n := 240) (by omega) ?_
  refine l_orders (M := M5) (o := 1020) (ge := 2400 + N) (bs := 2400) (N := N) (K0 := mI M5 1022) (C := C) (cn := sg.length) (p := zU z) (B := bC c) (F0 := mI M5 1020) (R := zOr z sg C E nc) hM5 hTk hMoN hsg (en_ok hS) (by omega) hO.2.1 (fun s2 W2 v x3 hr hW => ?_) (fun n2 s2 W2 v hr hn hW => ?_) 12 0 0 0 0 sg (zOS z) M5 hF.1 (by omega) hF.2.1 (by omega) (by omega) h0 ⟨hO.1.1, hO.1.2.1, fun x hx => absurd hx List.not_mem_nil, Nat.zero_le _, by show (-1 : Int) ≤ (-1 : Int32).toInt; decide⟩ (by rw [Nat.sub_zero])
  · obtain ⟨Sm, U, UP, K, P, A, F, rfl, k1, k2, k3, k4, k5, k6, k7, k8⟩ := hW
    have to0 : mT M5 1020 = (11, 0) := hM5.1
    refine wp_aload_n rfl (ck_get kk_Mo_orders 83 rfl) ?_
    refine wp_aload_n rfl (ck_get kk_Mo_orders 84 rfl) ?_
    refine wp_getIv (v := nI s2.2.2.1) (ck_get kk_Mo_orders 85 rfl) fl_Mo_330 (by assumption) ((by rw [wk_o]; exact k5)) ?_
    refine wp_cV1i (ck_get kk_Mo_orders 86 rfl) ml_Mo_14 (by omega) (Nat.le_of_ble_eq_true rfl) (by assumption) (Ci.to (m_good (by exact hM5)) ?_)
    rintro x M7 ⟨m1, m2⟩
    refine wp_ireturn (ck_get kk_Mo_orders 87 rfl) rfl rfl ⟨_, rfl, ?_⟩
    rw [m2, hr]
    have hRl : MR (zSt z (-1) (-1)) (lgM M5 1020 Sm) := hR5.sc (I2 := mI M5) (J2 := up1 (mJ M5) (1020 + 34) Sm) (fun x _ => rfl) (fun x q => up1_ne (by omega)) (fun k _ => rfl) hR5.2.2.2.2.2.2.1.2.2.2.2.1
    have hR6 := hRl.wu (U := U) (UP := UP) (K := K) (P := P) (A := A) (F := F) (s2 := (s2.1, (zS z).2)) (u2 := psL s2.2.1 (zU z)) (hR5.2.1.wo k1 hO.1.2.2.2.2.2.2.2.2.1 k3) k4 k2 (fun k q1 q2 => by
      have := k8 k (by unfold moW at q1; omega) q2 (by unfold moW at q1; omega) (by unfold moW at q1; omega)
      rw [up1_ne (by unfold moW at q1; omega)] at this; exact this) k7
    refine ⟨m1, hR6.good, ?_⟩
    exact ((hC5.trans (CSame.mk2 (M := M5) (I := mI M5) (J := up1 (mJ M5) (1020 + 34) Sm) (fun x q => ⟨rfl, up1_ne (by omega)⟩))).trans CSame.wu).trans CSame.gd
  · obtain ⟨Sm, U, UP, K, P, A, F, hWe, k1, k2, k3, k4, k5, k6, k7, k8⟩ := hW
    have wI : ∀ x, x ≠ 1020 → x ≠ 1022 → x ≠ 1035 → x ≠ 1036 → mI W2 x = mI M5 x := fun x a b c d => by
      rw [hWe]
      show up1 (up1 (up1 (up1 (mI M5) (1020 + 16) U) (1020 + 2) K) (1020 + 15) A) 1020 F x = _
      rw [up1_ne a, up1_ne c, up1_ne b, up1_ne d]
    have wJ : ∀ x, x ≠ 1023 → x ≠ 1037 → x ≠ 1054 → mJ W2 x = mJ M5 x := fun x a b c => by
      rw [hWe]
      show up1 (up1 (up1 (mJ M5) (1020 + 34) Sm) (1020 + 17) UP) (1020 + 3) P x = _
      rw [up1_ne a, up1_ne b, up1_ne c]
    have wF : ∀ k, moW k → k ≠ 36 → mI W2 1020 k = mI M5 1020 k := fun k q1 q2 => by
      rw [hWe, wk_o]
      have := k8 k (by unfold moW at q1; omega) q2 (by unfold moW at q1; omega) (by unfold moW at q1; omega)
      rw [up1_ne (by unfold moW at q1; omega)] at this; exact this
    have w27 : ∃ b, mI W2 1020 27 = bI b := by rw [hWe, wk_o]; exact k7
    have wK : ∀ x, 369 ≤ x → mI W2 1022 x = mI M5 1022 x := fun x hx => by
      rw [hWe]
      show mI (wkM (ubM (lgM M5 1020 Sm) 1020 U UP) 1020 K P A F) (1020 + 2) x = _
      rw [wk_2]; exact k3 x hx
    have hTW : mT W2 = mT M5 := by rw [hWe]
    have hRW : mR W2 = mR M5 := by rw [hWe]
    have hZW : W2.1 = M5.1 := by rw [hWe]
    have hMW : MoAt (mT W2) (mR W2) 1020 := by rw [hTW, hRW]; exact hM5
    clear hWe k1 k2 k3 k4 k5 k6 k7 k8
    have to0 := hMW.1
    have rf1 := MoAt.r hMW 15 rfl
    have tf1 := MoAt.t hMW 15 rfl
    have rf2 := MoAt.r hMW 16 rfl
    have tf2 := MoAt.t hMW 16 rfl
    have rf3 := MoAt.r hMW 17 rfl
    have tf3 := MoAt.t hMW 17 rfl
    have rf4 := MoAt.r hMW 18 rfl
    have tf4 := MoAt.t hMW 18 rfl
    refine wp_aload_n rfl (ck_get kk_Mo_orders 58 rfl) ?_
    refine wp_iconst (v := nI 1) (by decide) (ck_get kk_Mo_orders 59 rfl) ?_
    refine wp_cV1v (ck_get kk_Mo_orders 60 rfl) ml_Mo_521 (by omega) (Nat.le_of_ble_eq_true rfl) (by assumption) (Cv.to (m_takesBack (t := 1) hMW (by omega)) ?_)
    rintro M6 e6
    generalize hK6 : cpL (mI W2 1022) (mI W2 1027) 0 (369 * 1) 369 = K6
    generalize hP6 : cpL (mJ W2 1023) (mJ W2 1028) 0 (100 * 1) 100 = P6
    have e6' : M6 = mk2 W2 (up1 (mI W2) 1022 K6) (up1 (mJ W2) 1023 P6) := by rw [e6, ← hK6, ← hP6]
    clear e6
    subst e6'
    refine wp_aload_n rfl (ck_get kk_Mo_orders 61 rfl) ?_
    refine wp_aload_n rfl (ck_get kk_Mo_orders 62 rfl) ?_
    refine wp_getR (ck_get kk_Mo_orders 63 rfl) fl_Mo_76 (by assumption) (by assumption) ?_
    refine wp_aload_n rfl (ck_get kk_Mo_orders 64 rfl) ?_
    refine wp_getR (ck_get kk_Mo_orders 65 rfl) fl_Mo_79 (by assumption) (by assumption) ?_
    refine wp_aload_n rfl (ck_get kk_Mo_orders 66 rfl) ?_
    refine wp_getR (ck_get kk_Mo_orders 67 rfl) fl_Mo_82 (by assumption) (by assumption) ?_
    refine wp_aload_n rfl (ck_get kk_Mo_orders 68 rfl) ?_
    refine wp_getR (ck_get kk_Mo_orders 69 rfl) fl_Mo_85 (by assumption) (by assumption) ?_
    refine wp_cV4v (ck_get kk_Mo_orders 70 rfl) ml_Mo_511 (by omega) (Nat.le_of_ble_eq_true rfl) (by assumption) (Cv.to (m_laysUndone (a := 1020 + 16) (b := 1020 + 17) (c := 1020 + 18) (d := 1020 + 19) (by exact tf1) (by exact tf2) (by exact tf3) (by exact tf4) (by omega) (by omega)) ?_)
    rintro M7 e7
    generalize hU7 : cpL (mI W2 1036) (mI W2 1038) 0 0 5920 = U7
    generalize hV7 : cpL (mJ W2 1037) (mJ W2 1039) 0 0 1600 = V7
    have e7' : M7 = mk2 W2 (up1 (up1 (mI W2) 1022 K6) 1036 U7) (up1 (up1 (mJ W2) 1023 P6) 1037 V7) := by
      rw [e7, ← hU7, ← hV7]
      refine mk2_ext (M := W2) ?_ ?_
      · show up1 (up1 (mI W2) 1022 K6) (1020 + 16) (cpL (up1 (mI W2) 1022 K6 (1020 + 16)) (up1 (mI W2) 1022 K6 (1020 + 18)) 0 0 5920) = _
        rw [up1_ne (show 1020 + 16 ≠ 1022 by omega), up1_ne (show 1020 + 18 ≠ 1022 by omega)]
      · show up1 (up1 (mJ W2) 1023 P6) (1020 + 17) (cpL (up1 (mJ W2) 1023 P6 (1020 + 17)) (up1 (mJ W2) 1023 P6 (1020 + 19)) 0 0 1600) = _
        rw [up1_ne (show 1020 + 17 ≠ 1023 by omega), up1_ne (show 1020 + 19 ≠ 1023 by omega)]
    clear e7
    subst e7'
    refine wp_aload_n rfl (ck_get kk_Mo_orders 71 rfl) ?_
    refine wp_iload_n rfl (ck_get kk_Mo_orders 72 rfl) ?_
    refine wp_putI (ck_get kk_Mo_orders 73 rfl) fl_Mo_11 (by decide +kernel) (by assumption) (okI_int _) ?_
    refine wp_aload_n rfl (ck_get kk_Mo_orders 74 rfl) ?_
    refine wp_iload_n rfl (ck_get kk_Mo_orders 75 rfl) ?_
    refine wp_putI (ck_get kk_Mo_orders 76 rfl) fl_Mo_130 (by decide +kernel) (by assumption) (okI_int _) ?_
    refine wp_aload_n rfl (ck_get kk_Mo_orders 77 rfl) ?_
    refine wp_bipush (v := (-3)) (by decide) (ck_get kk_Mo_orders 78 rfl) ?_
    refine wp_cV1i (ck_get kk_Mo_orders 79 rfl) ml_Mo_146 (by omega) (Nat.le_of_ble_eq_true rfl) (by assumption) (Ci.to (m_refusesV (c := 3) (by decide) (by exact hMW) (by omega)) ?_)
    rintro y M8 ⟨m1, m2⟩
    refine wp_ireturn (ck_get kk_Mo_orders 80 rfl) rfl rfl ⟨_, rfl, ?_⟩
    rw [m2, hr]
    generalize hI9 : up2 (up2 (up1 (up1 (mI W2) 1022 K6) 1036 U7) 1020 36 (nI (zU z).1)) 1020 54 (nI n2) = I9
    generalize hJ9 : up1 (up1 (mJ W2) 1023 P6) 1037 V7 = J9
    have eM9 : sI (sI (mk2 W2 (up1 (up1 (mI W2) 1022 K6) 1036 U7) J9) 1020 36 (nI (zU z).1)) 1020 54 (nI n2) = mk2 M I9 J9 := by
      rw [← hI9]
      show (W2.1, mT W2, _, _, mR W2) = (M.1, mT M, _, _, mR M)
      rw [hZW, hTW, hRW, hC5.1, hC5.2.1, hC5.2.2.1]
    rw [eM9]
    have i9 : ∀ x, x ≠ 1020 → x ≠ 1022 → x ≠ 1035 → x ≠ 1036 → I9 x = mI M5 x := fun x a b c d => by rw [← hI9, up2_o a, up2_o a, up1_ne d, up1_ne b, wI x a b c d]
    have j9 : ∀ x, x ≠ 1023 → x ≠ 1037 → x ≠ 1054 → J9 x = mJ M5 x := fun x a b c => by rw [← hJ9, up1_ne b, up1_ne a, wJ x a b c]
    have f9 : ∀ k, k ≠ 36 → k ≠ 54 → I9 1020 k = mI W2 1020 k := fun k a b => by rw [← hI9, up2_k b, up2_k a, up1_ne (by omega), up1_ne (by omega)]
    have f36 : I9 1020 36 = nI (zU z).1 := by rw [← hI9, up2_k (by omega), up2_v]
    have f54 : I9 1020 54 = nI n2 := by rw [← hI9, up2_v]
    have k9 : I9 1022 = K6 := by rw [← hI9, up2_o (by omega), up2_o (by omega), up1_ne (by omega), up1_eq]
    have u9 : I9 1036 = U7 := by rw [← hI9, up2_o (by omega), up2_o (by omega), up1_eq]
    have p9 : J9 1023 = P6 := by rw [← hJ9, up1_ne (by omega), up1_eq]
    have v9 : J9 1037 = V7 := by rw [← hJ9, up1_eq]
    have hK6a : ∀ y, y < 369 → K6 y = mI M 1022 y := fun y hy => by
      rw [← hK6]
      unfold cpL
      rw [if_pos (by omega), wI 1027 (by omega) (by omega) (by omega) (by omega), show 369 * 1 + (y - 0) = 369 + y by omega]; exact b5 y hy
    have hK6b : ∀ y, 369 ≤ y → K6 y = mI M5 1022 y := fun y hy => by
      rw [← hK6]
      unfold cpL
      rw [if_neg (by omega)]; exact wK y hy
    have hP6a : ∀ y, y < 100 → P6 y = mJ M 1023 y := fun y hy => by
      rw [← hP6]
      unfold cpL
      rw [if_pos (by omega), wJ 1028 (by omega) (by omega) (by omega), show 100 * 1 + (y - 0) = 100 + y by omega]; exact b6 y hy
    have hU7a : ∀ y, y < 5920 → U7 y = mI M 1036 y := fun y hy => by
      rw [← hU7]
      unfold cpL
      rw [if_pos (by omega), wI 1038 (by omega) (by omega) (by omega) (by omega), show 0 + (y - 0) = y by omega]; exact b7 y hy
    have hV7a : ∀ y, y < 1600 → V7 y = mJ M 1037 y := fun y hy => by
      rw [← hV7]
      unfold cpL
      rw [if_pos (by omega), wJ 1039 (by omega) (by omega) (by omega), show 0 + (y - 0) = y by omega]; exact b8 y hy
    have hNM := hR5.2.2.2.2.2.2.1
    refine ⟨m1, MR.bad (k := 3) ?_ (by omega), ?_⟩
    · refine ⟨h.1, ?_, ⟨f36, fun i hi => ?_⟩, ?_, ?_, ?_, ?_, ?_⟩
      · show ShM (I9 1022) (J9 1023) (zS z)
        rw [k9, p9]
        exact hR5.2.1.wo (w := sWo (zS z)) (h.2.1.1.kept hO.1.1 (fun x a b => hK6a x (by omega)) (fun x a b => hP6a x (by omega))) hO.1.2.2.2.2.2.2.2.2.1 hK6b
      · have hi2 : i < (zU z).1 := hi
        obtain ⟨y1, y2⟩ := h.2.2.1.2 i hi2
        show MwHas (I9 1036) (J9 1037) (370 * i) (100 * i) ((zU z).2 i).2 ∧ I9 1036 (370 * i + 369) = nI ((zU z).2 i).1
        rw [u9, v9]
        exact ⟨y1.kept (hO.2.1.2 i hi2).2.1 (fun x a b => hU7a x (by omega)) (fun x a b => hV7a x (by omega)), by rw [hU7a _ (by omega)]; exact y2⟩
      · show MRi I9 J9 (zI z)
        have := hR5.2.2.2.1
        unfold MRi at this ⊢
        rw [i9 1024 (by omega) (by omega) (by omega) (by omega), i9 1026 (by omega) (by omega) (by omega) (by omega), j9 1025 (by omega) (by omega) (by omega)]; exact this
      · show MRd I9 (zD z)
        have := hR5.2.2.2.2.1
        unfold MRd at this ⊢
        rw [f9 62 (by omega) (by omega), wF 62 (by unfold moW; omega) (by omega), i9 1055 (by omega) (by omega) (by omega) (by omega)]; exact this
      · show MRp I9 (0, (zT z).2)
        have := hR5.2.2.2.2.2.1
        unfold MRp at this ⊢
        rw [f9 16 (by omega) (by omega), wF 16 (by unfold moW; omega) (by omega), i9 1030 (by omega) (by omega) (by omega) (by omega), i9 1029 (by omega) (by omega) (by omega) (by omega)]; exact this
      · obtain ⟨n1, n2', n3, n4, n5, n6⟩ := hNM
        refine ⟨?_, f54, ?_, ?_, ?_, fun q hq => ?_⟩
        · show I9 1020 9 = zB z
          rw [f9 9 (by omega) (by omega), wF 9 (by unfold moW; omega) (by omega)]; exact n1
        · show I9 1020 0 = zC z
          rw [f9 0 (by omega) (by omega), wF 0 (by unfold moW; omega) (by omega)]; exact n3
        · show I9 1020 17 = -1
          rw [f9 17 (by omega) (by omega), wF 17 (by unfold moW; omega) (by omega)]; exact b17
        · show ∃ b, I9 1020 27 = bI b
          rw [f9 27 (by omega) (by omega)]; exact w27
        · show I9 1021 q = zR z q
          rw [i9 1021 (by omega) (by omega) (by omega) (by omega)]; exact n6 q hq
      · show MRb I9 (zG z)
        have := hR5.2.2.2.2.2.2.2
        unfold MRb at this ⊢
        rw [f9 42 (by omega) (by omega), wF 42 (by unfold moW; omega) (by omega), i9 1043 (by omega) (by omega) (by omega) (by omega)]; exact this
    · refine CSame.trans (M2 := mk2 M I9 J9) (CSame.mk2 (fun x q => ⟨?_, ?_⟩)) CSame.rf
      · rw [i9 x (by omega) (by omega) (by omega) (by omega)]; exact (hC5.2.2.2 x q).1
      · rw [j9 x (by omega) (by omega) (by omega)]; exact (hC5.2.2.2 x q).2
theorem m_ordersF {z : ST} {c j lf : Nat} {sg : List Int32} (h : MR z M) (hO : ZOK c z) (hp : zPc z true = (false, j, lf, sg)) : CaM g Y_Mo_orders [] M (-6) (zBad (zSt z (-1) (nI (tS (zT z).2 (zT z).1 j))) 6) := by
  obtain ⟨hM, hSM, hUM, hIM, hDM, hPM, hNM, hBM⟩ := id h
  have to0 := hM.1
  refine cw_entry 3 pf_Mo_orders rfl ?_
  refine wp_aload_n rfl (ck_get kk_Mo_orders 0 rfl) ?_
  refine wp_iconst (v := (-1)) (by decide) (ck_get kk_Mo_orders 1 rfl) ?_
  refine wp_putI (ck_get kk_Mo_orders 2 rfl) fl_Mo_130 (by decide +kernel) (by assumption) (okI_int _) ?_
  refine wp_aload_n rfl (ck_get kk_Mo_orders 3 rfl) ?_
  refine wp_iconst (v := nI 1) (by decide) (ck_get kk_Mo_orders 4 rfl) ?_
  refine wp_cV1i (ck_get kk_Mo_orders 5 rfl) ml_Mo_281 (by omega) (Nat.le_of_ble_eq_true rfl) (by assumption) (Ci.to (m_readsT (od := true) (c := c) h.stop (by exact hO)) ?_)
  rintro x M1 ⟨N, C, V, P, I2, q1, q2, q3, e1, q5, q6⟩
  subst e1
  obtain ⟨j2, lf2, sg2, u1, -⟩ | ⟨j2, lf2, sg2, u1, rfl, f17⟩ := q6
  · rw [show zPc _ true = _ from hp] at u1; cases u1
  · obtain rfl : j2 = j := by rw [show zPc _ true = _ from hp] at u1; exact (Prod.mk.inj (Prod.mk.inj u1).2).1.symm
    first | refine wp_if_neN (t := 20) (ck_get kk_Mo_orders 6 rfl) (by decide) (by omega) (fun hc10 => ?_) (fun hc10 => ?_) | refine wp_if_ne (t := 20) (ck_get kk_Mo_orders 6 rfl) (by decide) (fun hc10 => ?_) (fun hc10 => ?_)
    · exact absurd (by decide) hc10
    · refine wp_aload_n rfl (ck_get kk_Mo_orders 7 rfl) ?_
      refine wp_bipush (v := (-6)) (by decide) (ck_get kk_Mo_orders 8 rfl) ?_
      refine wp_cV1i (ck_get kk_Mo_orders 9 rfl) ml_Mo_146 (by omega) (Nat.le_of_ble_eq_true rfl) (by assumption) (Ci.to (m_refusesV (c := 6) (by decide) (by exact hM) (by omega)) ?_)
      rintro x M1 ⟨e1, e2⟩
      refine wp_ireturn (ck_get kk_Mo_orders 10 rfl) rfl rfl ⟨_, rfl, ?_⟩
      exact ⟨e1, by rw [e2]; exact (h.stop.rd q5 f17).bad (k := 6) (by omega), by rw [e2]; exact ((CSame.s (by omega)).trans q5.csame).trans CSame.rf⟩
theorem b_orders (hS : OutOK g) : Both2 g Y_Mc_orders Y_Mo_orders [] := by
  intro c z M hc hO hC
  have hO1 : ZOK (c + 1) z := hO.le (Nat.le_succ c)
  cases hp : zPc z true with
  | mk b r =>
    obtain ⟨j, lf, sg⟩ := r
    cases b with
    | true =>
      obtain ⟨r, M2, hcall, x, e0, C, E, nc, hF, hok, e1, h1, h2⟩ := c_ordersT hS hC hO hc hp
      exact ⟨_, _, hO.ord hok, ⟨r, M2, hcall, x, e0, e1, h1, h2⟩, fun M2 h => m_ordersT h hO hc hp hF⟩
    | false => exact ⟨-6, _, hO1.st.bad, c_ordersF hS hC hO hc hp, fun M2 h => m_ordersF h hO hp⟩
end ORN
