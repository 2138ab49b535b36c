/-! ===== MissCurvesModel: terms, step by step ===== -/
section MT
variable {g : Gl} {M : Mem} {o ge n : Nat}
/-- what is divided by, and whether that breaks -/
def dvw (w : Int64) : Int64 := if w = 0 then 1 else w
def dvb (w : Int64) (live b : Bool) : Bool := b || (decide (w = 0) && live)
theorem dvw_ne (w : Int64) : ¬ dvw w = 0 := by
  unfold dvw
  by_cases h : w = 0
  · rw [if_pos h]; decide
  · rw [if_neg h]; exact h
theorem lcmp_ne0 (w : Int64) : (¬ lg_cmp w 0 = 0) ↔ ¬ w = 0 := by
  rw [← lcmp_eq]
theorem me_termMul {live b b1 : Bool} {i i1 : Nat} {v w z : Int64} {i2 : Nat} {b2 : Bool} {x4 x5 x6 : Option Value} (hM : MoAt (mT M) (mR M) o) (hge : mI M o 26 = nI ge) (hg2 : ge ≤ 2800) (hi : i < 100000) (h1 : tcd (mI M (o + 2)) ge i = nI 142) (hT : Cl g Y_Mo_partOf n [.ref o, .int (bI live)] (emM M o (i + 1) b) (fun x M2 => x = w ∧ M2 = emM M o i1 b1))
    (hR : ∀ y4 y5 y6, Wp g Y_Mo_termOf (n + 1) 6 [some (.ref o), some (.int (bI live)), some (.long (bbv (v * w) live b1)), none, y4, y5, y6] [] (emM M o i1 (bbr (v * w) live b1)) (emQ M o z i2 b2)) :
    Wp g Y_Mo_termOf (n + 1) 6 [some (.ref o), some (.int (bI live)), some (.long v), none, x4, x5, x6] [] (emM M o i b) (emQ M o z i2 b2) := by
  have hM0 := hM
  have to0 := hM.1
  refine wp_aload_n rfl (ck_get kk_Mo_termOf 4 rfl) ?_
  refine wp_aload_n rfl (ck_get kk_Mo_termOf 5 rfl) ?_
  refine wp_getIv (v := nI i) (ck_get kk_Mo_termOf 6 rfl) fl_Mo_294 (by assumption) (emM_25) ?_
  refine wp_cV1i (ck_get kk_Mo_termOf 7 rfl) ml_Mo_297 (by omega) (Nat.le_of_ble_eq_true rfl) (by assumption) (Ci.to (m_codeAt (by exact hM0) hge hg2 hi) ?_)
  rintro _ M1 ⟨rfl, eqm1⟩
  obtain rfl := eqm1.symm
  refine wp_bipush (v := nI 42) (by decide) (ck_get kk_Mo_termOf 8 rfl) ?_
  refine wp_cS1i (ck_get kk_Mo_termOf 9 rfl) ml_Mo_253 (by omega) (Nat.le_of_ble_eq_true rfl) (Ci.to (m_signOf) ?_)
  rintro _ M1 ⟨rfl, eqm1⟩
  obtain rfl := eqm1.symm
  refine wp_icmp_eq (t := 54) (ck_get kk_Mo_termOf 10 rfl) (by decide) (fun hc19 => ?_) (fun hc19 => ?_)
  · refine wp_aload_n rfl (ck_get kk_Mo_termOf 25 rfl) ?_
    refine wp_aload_n rfl (ck_get kk_Mo_termOf 26 rfl) ?_
    refine wp_getIv (v := nI i) (ck_get kk_Mo_termOf 27 rfl) fl_Mo_294 (by assumption) (emM_25) ?_
    refine wp_cV1i (ck_get kk_Mo_termOf 28 rfl) ml_Mo_297 (by omega) (Nat.le_of_ble_eq_true rfl) (by assumption) (Ci.to (m_codeAt (by exact hM0) hge hg2 hi) ?_)
    rintro _ M1 ⟨rfl, eqm1⟩
    obtain rfl := eqm1.symm
    refine wp_istore (ck_get kk_Mo_termOf 29 rfl) (by decide) rfl ?_
    refine wp_aload_n rfl (ck_get kk_Mo_termOf 30 rfl) ?_
    refine wp_dup rfl (ck_get kk_Mo_termOf 31 rfl) ?_
    refine wp_getIv (v := nI i) (ck_get kk_Mo_termOf 32 rfl) fl_Mo_294 (by assumption) (emM_25) ?_
    refine wp_iconst (v := nI 1) (by decide) (ck_get kk_Mo_termOf 33 rfl) ?_
    first | refine wp_iaddN (ck_get kk_Mo_termOf 34 rfl) ?_ | refine wp_iadd (ck_get kk_Mo_termOf 34 rfl) ?_
    refine wp_putI (ck_get kk_Mo_termOf 35 rfl) fl_Mo_294 (by decide +kernel) (by assumption) (okI_int _) ?_
    rw [emM_go]
    refine wp_aload_n rfl (ck_get kk_Mo_termOf 36 rfl) ?_
    refine wp_iload_n rfl (ck_get kk_Mo_termOf 37 rfl) ?_
    refine wp_cV1l (ck_get kk_Mo_termOf 38 rfl) ml_Mo_315 (by omega) (Nat.le_of_ble_eq_true rfl) (by assumption) (Cl.to (hT) ?_)
    rintro xq Mq ⟨xqe, rfl⟩
    refine wp_lstore (ck_get kk_Mo_termOf 39 rfl) (by decide) rfl ?_
    refine wp_iload rfl (ck_get kk_Mo_termOf 40 rfl) ?_
    refine wp_bipush (v := nI 42) (by decide) (ck_get kk_Mo_termOf 41 rfl) ?_
    refine wp_cS1i (ck_get kk_Mo_termOf 42 rfl) ml_Mo_253 (by omega) (Nat.le_of_ble_eq_true rfl) (Ci.to (m_signOf) ?_)
    rintro _ M1 ⟨rfl, eqm1⟩
    obtain rfl := eqm1.symm
    refine wp_icmp_eq (t := 121) (ck_get kk_Mo_termOf 43 rfl) (by decide) (fun hc88 => ?_) (fun hc88 => ?_)
    · refine wp_aload_n rfl (ck_get kk_Mo_termOf 60 rfl) ?_
      refine wp_iload rfl (ck_get kk_Mo_termOf 61 rfl) ?_
      refine wp_bipush (v := nI 42) (by decide) (ck_get kk_Mo_termOf 62 rfl) ?_
      refine wp_cS1i (ck_get kk_Mo_termOf 63 rfl) ml_Mo_253 (by omega) (Nat.le_of_ble_eq_true rfl) (Ci.to (m_signOf) ?_)
      rintro _ M1 ⟨rfl, eqm1⟩
      obtain rfl := eqm1.symm
      refine wp_icmp_ne (t := 139) (ck_get kk_Mo_termOf 64 rfl) (by decide) (fun hc129 => ?_) (fun hc129 => ?_)
      · exact absurd h1 hc129
      · subst xqe
        refine wp_lload_n rfl (ck_get kk_Mo_termOf 65 rfl) ?_
        refine wp_lload rfl (ck_get kk_Mo_termOf 66 rfl) ?_
        refine wp_lmul (ck_get kk_Mo_termOf 67 rfl) ?_
        refine wp_goto (t := 160) (ck_get kk_Mo_termOf 68 rfl) (by decide) ?_
        refine wp_iload_n rfl (ck_get kk_Mo_termOf 80 rfl) ?_
        refine wp_cV2l (ck_get kk_Mo_termOf 81 rfl) ml_Mo_311 (by omega) (Nat.le_of_ble_eq_true rfl) (by assumption) (Cl.to (m_bounded (by exact hM0)) ?_)
        rintro xr Mr ⟨rfl, rfl⟩
        refine wp_lstore_n (ck_get kk_Mo_termOf 82 rfl) (by decide) rfl ?_
        refine wp_goto (t := 6) (ck_get kk_Mo_termOf 83 rfl) (by decide) ?_
        exact hR _ _ _
    · exact absurd h1 hc88
  · exact absurd h1 hc19
theorem me_termDiv {live b b1 : Bool} {i i1 : Nat} {v w z : Int64} {i2 : Nat} {b2 : Bool} {x4 x5 x6 : Option Value} (hM : MoAt (mT M) (mR M) o) (hge : mI M o 26 = nI ge) (hg2 : ge ≤ 2800) (hi : i < 100000) (h1 : tcd (mI M (o + 2)) ge i = nI 147) (hT : Cl g Y_Mo_partOf n [.ref o, .int (bI live)] (emM M o (i + 1) b) (fun x M2 => x = w ∧ M2 = emM M o i1 b1))
    (hR : ∀ y4 y5 y6, Wp g Y_Mo_termOf (n + 1) 6 [some (.ref o), some (.int (bI live)), some (.long (bbv (v / dvw w) live (dvb w live b1))), none, y4, y5, y6] [] (emM M o i1 (bbr (v / dvw w) live (dvb w live b1))) (emQ M o z i2 b2)) :
    Wp g Y_Mo_termOf (n + 1) 6 [some (.ref o), some (.int (bI live)), some (.long v), none, x4, x5, x6] [] (emM M o i b) (emQ M o z i2 b2) := by
  have hM0 := hM
  have h0 : ¬ tcd (mI M (o + 2)) ge i = nI 142 := by rw [h1]; decide
  have to0 := hM.1
  have rest : ∀ (y4 : Option Value) (w1 : Int64) (b3 : Bool), w1 = dvw w → b3 = dvb w live b1 → Wp g Y_Mo_termOf (n + 1) 121 [some (.ref o), some (.int (bI live)), some (.long v), none, some (.int (tcd (mI M (o + 2)) ge i)), some (.long w1), none] [] (emM M o i1 b3) (emQ M o z i2 b2) := by
    intro y4 w1 b3 e1 e2
    subst e1
    subst e2
    refine wp_aload_n rfl (ck_get kk_Mo_termOf 60 rfl) ?_
    refine wp_iload rfl (ck_get kk_Mo_termOf 61 rfl) ?_
    refine wp_bipush (v := nI 42) (by decide) (ck_get kk_Mo_termOf 62 rfl) ?_
    refine wp_cS1i (ck_get kk_Mo_termOf 63 rfl) ml_Mo_253 (by omega) (Nat.le_of_ble_eq_true rfl) (Ci.to (m_signOf) ?_)
    rintro _ M1 ⟨rfl, eqm1⟩
    obtain rfl := eqm1.symm
    refine wp_icmp_ne (t := 139) (ck_get kk_Mo_termOf 64 rfl) (by decide) (fun hc129 => ?_) (fun hc129 => ?_)
    · refine wp_iload rfl (ck_get kk_Mo_termOf 69 rfl) ?_
      refine wp_bipush (v := nI 47) (by decide) (ck_get kk_Mo_termOf 70 rfl) ?_
      refine wp_cS1i (ck_get kk_Mo_termOf 71 rfl) ml_Mo_253 (by omega) (Nat.le_of_ble_eq_true rfl) (Ci.to (m_signOf) ?_)
      rintro _ M1 ⟨rfl, eqm1⟩
      obtain rfl := eqm1.symm
      refine wp_icmp_ne (t := 156) (ck_get kk_Mo_termOf 72 rfl) (by decide) (fun hc146 => ?_) (fun hc146 => ?_)
      · exact absurd h1 hc146
      · refine wp_lload_n rfl (ck_get kk_Mo_termOf 73 rfl) ?_
        refine wp_lload rfl (ck_get kk_Mo_termOf 74 rfl) ?_
        refine wp_ldiv (dvw_ne w) (ck_get kk_Mo_termOf 75 rfl) ?_
        refine wp_goto (t := 160) (ck_get kk_Mo_termOf 76 rfl) (by decide) ?_
        refine wp_iload_n rfl (ck_get kk_Mo_termOf 80 rfl) ?_
        refine wp_cV2l (ck_get kk_Mo_termOf 81 rfl) ml_Mo_311 (by omega) (Nat.le_of_ble_eq_true rfl) (by assumption) (Cl.to (m_bounded (by exact hM0)) ?_)
        rintro xr Mr ⟨rfl, rfl⟩
        refine wp_lstore_n (ck_get kk_Mo_termOf 82 rfl) (by decide) rfl ?_
        refine wp_goto (t := 6) (ck_get kk_Mo_termOf 83 rfl) (by decide) ?_
        exact hR _ _ _
    · exact absurd hc129 h0
  refine wp_aload_n rfl (ck_get kk_Mo_termOf 4 rfl) ?_
  refine wp_aload_n rfl (ck_get kk_Mo_termOf 5 rfl) ?_
  refine wp_getIv (v := nI i) (ck_get kk_Mo_termOf 6 rfl) fl_Mo_294 (by assumption) (emM_25) ?_
  refine wp_cV1i (ck_get kk_Mo_termOf 7 rfl) ml_Mo_297 (by omega) (Nat.le_of_ble_eq_true rfl) (by assumption) (Ci.to (m_codeAt (by exact hM0) hge hg2 hi) ?_)
  rintro _ M1 ⟨rfl, eqm1⟩
  obtain rfl := eqm1.symm
  refine wp_bipush (v := nI 42) (by decide) (ck_get kk_Mo_termOf 8 rfl) ?_
  refine wp_cS1i (ck_get kk_Mo_termOf 9 rfl) ml_Mo_253 (by omega) (Nat.le_of_ble_eq_true rfl) (Ci.to (m_signOf) ?_)
  rintro _ M1 ⟨rfl, eqm1⟩
  obtain rfl := eqm1.symm
  refine wp_icmp_eq (t := 54) (ck_get kk_Mo_termOf 10 rfl) (by decide) (fun hc19 => ?_) (fun hc19 => ?_)
  · exact absurd hc19 h0
  · refine wp_aload_n rfl (ck_get kk_Mo_termOf 11 rfl) ?_
    refine wp_aload_n rfl (ck_get kk_Mo_termOf 12 rfl) ?_
    refine wp_getIv (v := nI i) (ck_get kk_Mo_termOf 13 rfl) fl_Mo_294 (by assumption) (emM_25) ?_
    refine wp_cV1i (ck_get kk_Mo_termOf 14 rfl) ml_Mo_297 (by omega) (Nat.le_of_ble_eq_true rfl) (by assumption) (Ci.to (m_codeAt (by exact hM0) hge hg2 hi) ?_)
    rintro _ M1 ⟨rfl, eqm1⟩
    obtain rfl := eqm1.symm
    refine wp_bipush (v := nI 47) (by decide) (ck_get kk_Mo_termOf 15 rfl) ?_
    refine wp_cS1i (ck_get kk_Mo_termOf 16 rfl) ml_Mo_253 (by omega) (Nat.le_of_ble_eq_true rfl) (Ci.to (m_signOf) ?_)
    rintro _ M1 ⟨rfl, eqm1⟩
    obtain rfl := eqm1.symm
    refine wp_icmp_eq (t := 54) (ck_get kk_Mo_termOf 17 rfl) (by decide) (fun hc35 => ?_) (fun hc35 => ?_)
    · refine wp_aload_n rfl (ck_get kk_Mo_termOf 25 rfl) ?_
      refine wp_aload_n rfl (ck_get kk_Mo_termOf 26 rfl) ?_
      refine wp_getIv (v := nI i) (ck_get kk_Mo_termOf 27 rfl) fl_Mo_294 (by assumption) (emM_25) ?_
      refine wp_cV1i (ck_get kk_Mo_termOf 28 rfl) ml_Mo_297 (by omega) (Nat.le_of_ble_eq_true rfl) (by assumption) (Ci.to (m_codeAt (by exact hM0) hge hg2 hi) ?_)
      rintro _ M1 ⟨rfl, eqm1⟩
      obtain rfl := eqm1.symm
      refine wp_istore (ck_get kk_Mo_termOf 29 rfl) (by decide) rfl ?_
      refine wp_aload_n rfl (ck_get kk_Mo_termOf 30 rfl) ?_
      refine wp_dup rfl (ck_get kk_Mo_termOf 31 rfl) ?_
      refine wp_getIv (v := nI i) (ck_get kk_Mo_termOf 32 rfl) fl_Mo_294 (by assumption) (emM_25) ?_
      refine wp_iconst (v := nI 1) (by decide) (ck_get kk_Mo_termOf 33 rfl) ?_
      first | refine wp_iaddN (ck_get kk_Mo_termOf 34 rfl) ?_ | refine wp_iadd (ck_get kk_Mo_termOf 34 rfl) ?_
      refine wp_putI (ck_get kk_Mo_termOf 35 rfl) fl_Mo_294 (by decide +kernel) (by assumption) (okI_int _) ?_
      rw [emM_go]
      refine wp_aload_n rfl (ck_get kk_Mo_termOf 36 rfl) ?_
      refine wp_iload_n rfl (ck_get kk_Mo_termOf 37 rfl) ?_
      refine wp_cV1l (ck_get kk_Mo_termOf 38 rfl) ml_Mo_315 (by omega) (Nat.le_of_ble_eq_true rfl) (by assumption) (Cl.to (hT) ?_)
      rintro xq Mq ⟨xqe, rfl⟩
      refine wp_lstore (ck_get kk_Mo_termOf 39 rfl) (by decide) rfl ?_
      refine wp_iload rfl (ck_get kk_Mo_termOf 40 rfl) ?_
      refine wp_bipush (v := nI 42) (by decide) (ck_get kk_Mo_termOf 41 rfl) ?_
      refine wp_cS1i (ck_get kk_Mo_termOf 42 rfl) ml_Mo_253 (by omega) (Nat.le_of_ble_eq_true rfl) (Ci.to (m_signOf) ?_)
      rintro _ M1 ⟨rfl, eqm1⟩
      obtain rfl := eqm1.symm
      refine wp_icmp_eq (t := 121) (ck_get kk_Mo_termOf 43 rfl) (by decide) (fun hc88 => ?_) (fun hc88 => ?_)
      · exact absurd hc88 h0
      · refine wp_lload rfl (ck_get kk_Mo_termOf 44 rfl) ?_
        refine wp_lconst (v := 0) (by decide) (ck_get kk_Mo_termOf 45 rfl) ?_
        refine wp_lcmp (ck_get kk_Mo_termOf 46 rfl) ?_
        refine wp_if_ne (t := 121) (ck_get kk_Mo_termOf 47 rfl) (by decide) (fun hc95 => ?_) (fun hc95 => ?_)
        · have q := (lcmp_ne0 xq).mp hc95
          rw [xqe] at q ⊢
          exact rest none _ b1 (by rw [dvw, if_neg q]) (by rw [dvb, decide_eq_false q]; simp)
        · refine wp_aload_n rfl (ck_get kk_Mo_termOf 48 rfl) ?_
          refine wp_aload_n rfl (ck_get kk_Mo_termOf 49 rfl) ?_
          refine wp_getIv (v := bI b1) (ck_get kk_Mo_termOf 50 rfl) fl_Mo_304 (by assumption) (emM_27) ?_
          first | refine wp_if_neN (t := 110) (ck_get kk_Mo_termOf 51 rfl) (by decide) (by omega) (fun hc103 => ?_) (fun hc103 => ?_) | refine wp_if_ne (t := 110) (ck_get kk_Mo_termOf 51 rfl) (by decide) (fun hc103 => ?_) (fun hc103 => ?_)
          · refine wp_iconst (v := nI 1) (by decide) (ck_get kk_Mo_termOf 54 rfl) ?_
            refine wp_goto (t := 115) (ck_get kk_Mo_termOf 55 rfl) (by decide) ?_
            refine wp_putI (ck_get kk_Mo_termOf 57 rfl) fl_Mo_304 (by decide +kernel) (by assumption) (by first | exact okI_b0 | exact okI_b1) ?_
            rw [show (nI 1 : Int32) = bI true from rfl, emM_br]
            refine wp_lconst (v := 1) (by decide) (ck_get kk_Mo_termOf 58 rfl) ?_
            refine wp_lstore (ck_get kk_Mo_termOf 59 rfl) (by decide) rfl ?_
            have q0 : xq = 0 := (lcmp_eq _ _).mp hc95
            have q := xqe ▸ q0
            exact rest none 1 true (by rw [dvw, if_pos q]) (by rw [dvb, bI_t1 hc103]; rfl)
          · refine wp_iload_n rfl (ck_get kk_Mo_termOf 52 rfl) ?_
            first | refine wp_if_eqN (t := 114) (ck_get kk_Mo_termOf 53 rfl) (by decide) (by omega) (fun hc107 => ?_) (fun hc107 => ?_) | refine wp_if_eq (t := 114) (ck_get kk_Mo_termOf 53 rfl) (by decide) (fun hc107 => ?_) (fun hc107 => ?_)
            · refine wp_iconst (v := nI 0) (by decide) (ck_get kk_Mo_termOf 56 rfl) ?_
              refine wp_putI (ck_get kk_Mo_termOf 57 rfl) fl_Mo_304 (by decide +kernel) (by assumption) (by first | exact okI_b0 | exact okI_b1) ?_
              rw [show (nI 0 : Int32) = bI false from rfl, emM_br]
              refine wp_lconst (v := 1) (by decide) (ck_get kk_Mo_termOf 58 rfl) ?_
              refine wp_lstore (ck_get kk_Mo_termOf 59 rfl) (by decide) rfl ?_
              have q0 : xq = 0 := (lcmp_eq _ _).mp hc95
              have q := xqe ▸ q0
              exact rest none 1 false (by rw [dvw, if_pos q]) (by rw [dvb, bI_t0 hc103, bI_t0 hc107]; simp)
            · refine wp_iconst (v := nI 1) (by decide) (ck_get kk_Mo_termOf 54 rfl) ?_
              refine wp_goto (t := 115) (ck_get kk_Mo_termOf 55 rfl) (by decide) ?_
              refine wp_putI (ck_get kk_Mo_termOf 57 rfl) fl_Mo_304 (by decide +kernel) (by assumption) (by first | exact okI_b0 | exact okI_b1) ?_
              rw [show (nI 1 : Int32) = bI true from rfl, emM_br]
              refine wp_lconst (v := 1) (by decide) (ck_get kk_Mo_termOf 58 rfl) ?_
              refine wp_lstore (ck_get kk_Mo_termOf 59 rfl) (by decide) rfl ?_
              have q0 : xq = 0 := (lcmp_eq _ _).mp hc95
              have q := xqe ▸ q0
              exact rest none 1 true (by rw [dvw, if_pos q]) (by rw [dvb, decide_eq_true q, bI_t1 hc107]; simp)
    · exact absurd h1 hc35
theorem me_termRem {live b b1 : Bool} {i i1 : Nat} {v w z : Int64} {i2 : Nat} {b2 : Bool} {x4 x5 x6 : Option Value} (hM : MoAt (mT M) (mR M) o) (hge : mI M o 26 = nI ge) (hg2 : ge ≤ 2800) (hi : i < 100000) (h1 : tcd (mI M (o + 2)) ge i = nI 137) (hT : Cl g Y_Mo_partOf n [.ref o, .int (bI live)] (emM M o (i + 1) b) (fun x M2 => x = w ∧ M2 = emM M o i1 b1))
    (hR : ∀ y4 y5 y6, Wp g Y_Mo_termOf (n + 1) 6 [some (.ref o), some (.int (bI live)), some (.long (bbv (v - v / dvw w * dvw w) live (dvb w live b1))), none, y4, y5, y6] [] (emM M o i1 (bbr (v - v / dvw w * dvw w) live (dvb w live b1))) (emQ M o z i2 b2)) :
    Wp g Y_Mo_termOf (n + 1) 6 [some (.ref o), some (.int (bI live)), some (.long v), none, x4, x5, x6] [] (emM M o i b) (emQ M o z i2 b2) := by
  have hM0 := hM
  have h0 : ¬ tcd (mI M (o + 2)) ge i = nI 142 := by rw [h1]; decide
  have h00 : ¬ tcd (mI M (o + 2)) ge i = nI 147 := by rw [h1]; decide
  have to0 := hM.1
  have rest : ∀ (y4 : Option Value) (w1 : Int64) (b3 : Bool), w1 = dvw w → b3 = dvb w live b1 → Wp g Y_Mo_termOf (n + 1) 121 [some (.ref o), some (.int (bI live)), some (.long v), none, some (.int (tcd (mI M (o + 2)) ge i)), some (.long w1), none] [] (emM M o i1 b3) (emQ M o z i2 b2) := by
    intro y4 w1 b3 e1 e2
    subst e1
    subst e2
    refine wp_aload_n rfl (ck_get kk_Mo_termOf 60 rfl) ?_
    refine wp_iload rfl (ck_get kk_Mo_termOf 61 rfl) ?_
    refine wp_bipush (v := nI 42) (by decide) (ck_get kk_Mo_termOf 62 rfl) ?_
    refine wp_cS1i (ck_get kk_Mo_termOf 63 rfl) ml_Mo_253 (by omega) (Nat.le_of_ble_eq_true rfl) (Ci.to (m_signOf) ?_)
    rintro _ M1 ⟨rfl, eqm1⟩
    obtain rfl := eqm1.symm
    refine wp_icmp_ne (t := 139) (ck_get kk_Mo_termOf 64 rfl) (by decide) (fun hc129 => ?_) (fun hc129 => ?_)
    · refine wp_iload rfl (ck_get kk_Mo_termOf 69 rfl) ?_
      refine wp_bipush (v := nI 47) (by decide) (ck_get kk_Mo_termOf 70 rfl) ?_
      refine wp_cS1i (ck_get kk_Mo_termOf 71 rfl) ml_Mo_253 (by omega) (Nat.le_of_ble_eq_true rfl) (Ci.to (m_signOf) ?_)
      rintro _ M1 ⟨rfl, eqm1⟩
      obtain rfl := eqm1.symm
      refine wp_icmp_ne (t := 156) (ck_get kk_Mo_termOf 72 rfl) (by decide) (fun hc146 => ?_) (fun hc146 => ?_)
      · refine wp_lload_n rfl (ck_get kk_Mo_termOf 77 rfl) ?_
        refine wp_lload rfl (ck_get kk_Mo_termOf 78 rfl) ?_
        refine wp_lrem (dvw_ne w) (ck_get kk_Mo_termOf 79 rfl) ?_
        refine wp_iload_n rfl (ck_get kk_Mo_termOf 80 rfl) ?_
        refine wp_cV2l (ck_get kk_Mo_termOf 81 rfl) ml_Mo_311 (by omega) (Nat.le_of_ble_eq_true rfl) (by assumption) (Cl.to (m_bounded (by exact hM0)) ?_)
        rintro xr Mr ⟨rfl, rfl⟩
        refine wp_lstore_n (ck_get kk_Mo_termOf 82 rfl) (by decide) rfl ?_
        refine wp_goto (t := 6) (ck_get kk_Mo_termOf 83 rfl) (by decide) ?_
        exact hR _ _ _
      · exact absurd hc146 h00
    · exact absurd hc129 h0
  refine wp_aload_n rfl (ck_get kk_Mo_termOf 4 rfl) ?_
  refine wp_aload_n rfl (ck_get kk_Mo_termOf 5 rfl) ?_
  refine wp_getIv (v := nI i) (ck_get kk_Mo_termOf 6 rfl) fl_Mo_294 (by assumption) (emM_25) ?_
  refine wp_cV1i (ck_get kk_Mo_termOf 7 rfl) ml_Mo_297 (by omega) (Nat.le_of_ble_eq_true rfl) (by assumption) (Ci.to (m_codeAt (by exact hM0) hge hg2 hi) ?_)
  rintro _ M1 ⟨rfl, eqm1⟩
  obtain rfl := eqm1.symm
  refine wp_bipush (v := nI 42) (by decide) (ck_get kk_Mo_termOf 8 rfl) ?_
  refine wp_cS1i (ck_get kk_Mo_termOf 9 rfl) ml_Mo_253 (by omega) (Nat.le_of_ble_eq_true rfl) (Ci.to (m_signOf) ?_)
  rintro _ M1 ⟨rfl, eqm1⟩
  obtain rfl := eqm1.symm
  refine wp_icmp_eq (t := 54) (ck_get kk_Mo_termOf 10 rfl) (by decide) (fun hc19 => ?_) (fun hc19 => ?_)
  · exact absurd hc19 h0
  · refine wp_aload_n rfl (ck_get kk_Mo_termOf 11 rfl) ?_
    refine wp_aload_n rfl (ck_get kk_Mo_termOf 12 rfl) ?_
    refine wp_getIv (v := nI i) (ck_get kk_Mo_termOf 13 rfl) fl_Mo_294 (by assumption) (emM_25) ?_
    refine wp_cV1i (ck_get kk_Mo_termOf 14 rfl) ml_Mo_297 (by omega) (Nat.le_of_ble_eq_true rfl) (by assumption) (Ci.to (m_codeAt (by exact hM0) hge hg2 hi) ?_)
    rintro _ M1 ⟨rfl, eqm1⟩
    obtain rfl := eqm1.symm
    refine wp_bipush (v := nI 47) (by decide) (ck_get kk_Mo_termOf 15 rfl) ?_
    refine wp_cS1i (ck_get kk_Mo_termOf 16 rfl) ml_Mo_253 (by omega) (Nat.le_of_ble_eq_true rfl) (Ci.to (m_signOf) ?_)
    rintro _ M1 ⟨rfl, eqm1⟩
    obtain rfl := eqm1.symm
    refine wp_icmp_eq (t := 54) (ck_get kk_Mo_termOf 17 rfl) (by decide) (fun hc35 => ?_) (fun hc35 => ?_)
    · exact absurd hc35 h00
    · refine wp_aload_n rfl (ck_get kk_Mo_termOf 18 rfl) ?_
      refine wp_aload_n rfl (ck_get kk_Mo_termOf 19 rfl) ?_
      refine wp_getIv (v := nI i) (ck_get kk_Mo_termOf 20 rfl) fl_Mo_294 (by assumption) (emM_25) ?_
      refine wp_cV1i (ck_get kk_Mo_termOf 21 rfl) ml_Mo_297 (by omega) (Nat.le_of_ble_eq_true rfl) (by assumption) (Ci.to (m_codeAt (by exact hM0) hge hg2 hi) ?_)
      rintro _ M1 ⟨rfl, eqm1⟩
      obtain rfl := eqm1.symm
      refine wp_bipush (v := nI 37) (by decide) (ck_get kk_Mo_termOf 22 rfl) ?_
      refine wp_cS1i (ck_get kk_Mo_termOf 23 rfl) ml_Mo_253 (by omega) (Nat.le_of_ble_eq_true rfl) (Ci.to (m_signOf) ?_)
      rintro _ M1 ⟨rfl, eqm1⟩
      obtain rfl := eqm1.symm
      refine wp_icmp_ne (t := 168) (ck_get kk_Mo_termOf 24 rfl) (by decide) (fun hc51 => ?_) (fun hc51 => ?_)
      · exact absurd h1 hc51
      · refine wp_aload_n rfl (ck_get kk_Mo_termOf 25 rfl) ?_
        refine wp_aload_n rfl (ck_get kk_Mo_termOf 26 rfl) ?_
        refine wp_getIv (v := nI i) (ck_get kk_Mo_termOf 27 rfl) fl_Mo_294 (by assumption) (emM_25) ?_
        refine wp_cV1i (ck_get kk_Mo_termOf 28 rfl) ml_Mo_297 (by omega) (Nat.le_of_ble_eq_true rfl) (by assumption) (Ci.to (m_codeAt (by exact hM0) hge hg2 hi) ?_)
        rintro _ M1 ⟨rfl, eqm1⟩
        obtain rfl := eqm1.symm
        refine wp_istore (ck_get kk_Mo_termOf 29 rfl) (by decide) rfl ?_
        refine wp_aload_n rfl (ck_get kk_Mo_termOf 30 rfl) ?_
        refine wp_dup rfl (ck_get kk_Mo_termOf 31 rfl) ?_
        refine wp_getIv (v := nI i) (ck_get kk_Mo_termOf 32 rfl) fl_Mo_294 (by assumption) (emM_25) ?_
        refine wp_iconst (v := nI 1) (by decide) (ck_get kk_Mo_termOf 33 rfl) ?_
        first | refine wp_iaddN (ck_get kk_Mo_termOf 34 rfl) ?_ | refine wp_iadd (ck_get kk_Mo_termOf 34 rfl) ?_
        refine wp_putI (ck_get kk_Mo_termOf 35 rfl) fl_Mo_294 (by decide +kernel) (by assumption) (okI_int _) ?_
        rw [emM_go]
        refine wp_aload_n rfl (ck_get kk_Mo_termOf 36 rfl) ?_
        refine wp_iload_n rfl (ck_get kk_Mo_termOf 37 rfl) ?_
        refine wp_cV1l (ck_get kk_Mo_termOf 38 rfl) ml_Mo_315 (by omega) (Nat.le_of_ble_eq_true rfl) (by assumption) (Cl.to (hT) ?_)
        rintro xq Mq ⟨xqe, rfl⟩
        refine wp_lstore (ck_get kk_Mo_termOf 39 rfl) (by decide) rfl ?_
        refine wp_iload rfl (ck_get kk_Mo_termOf 40 rfl) ?_
        refine wp_bipush (v := nI 42) (by decide) (ck_get kk_Mo_termOf 41 rfl) ?_
        refine wp_cS1i (ck_get kk_Mo_termOf 42 rfl) ml_Mo_253 (by omega) (Nat.le_of_ble_eq_true rfl) (Ci.to (m_signOf) ?_)
        rintro _ M1 ⟨rfl, eqm1⟩
        obtain rfl := eqm1.symm
        refine wp_icmp_eq (t := 121) (ck_get kk_Mo_termOf 43 rfl) (by decide) (fun hc88 => ?_) (fun hc88 => ?_)
        · exact absurd hc88 h0
        · refine wp_lload rfl (ck_get kk_Mo_termOf 44 rfl) ?_
          refine wp_lconst (v := 0) (by decide) (ck_get kk_Mo_termOf 45 rfl) ?_
          refine wp_lcmp (ck_get kk_Mo_termOf 46 rfl) ?_
          refine wp_if_ne (t := 121) (ck_get kk_Mo_termOf 47 rfl) (by decide) (fun hc95 => ?_) (fun hc95 => ?_)
          · have q := (lcmp_ne0 xq).mp hc95
            rw [xqe] at q ⊢
            exact rest none _ b1 (by rw [dvw, if_neg q]) (by rw [dvb, decide_eq_false q]; simp)
          · refine wp_aload_n rfl (ck_get kk_Mo_termOf 48 rfl) ?_
            refine wp_aload_n rfl (ck_get kk_Mo_termOf 49 rfl) ?_
            refine wp_getIv (v := bI b1) (ck_get kk_Mo_termOf 50 rfl) fl_Mo_304 (by assumption) (emM_27) ?_
            first | refine wp_if_neN (t := 110) (ck_get kk_Mo_termOf 51 rfl) (by decide) (by omega) (fun hc103 => ?_) (fun hc103 => ?_) | refine wp_if_ne (t := 110) (ck_get kk_Mo_termOf 51 rfl) (by decide) (fun hc103 => ?_) (fun hc103 => ?_)
            · refine wp_iconst (v := nI 1) (by decide) (ck_get kk_Mo_termOf 54 rfl) ?_
              refine wp_goto (t := 115) (ck_get kk_Mo_termOf 55 rfl) (by decide) ?_
              refine wp_putI (ck_get kk_Mo_termOf 57 rfl) fl_Mo_304 (by decide +kernel) (by assumption) (by first | exact okI_b0 | exact okI_b1) ?_
              rw [show (nI 1 : Int32) = bI true from rfl, emM_br]
              refine wp_lconst (v := 1) (by decide) (ck_get kk_Mo_termOf 58 rfl) ?_
              refine wp_lstore (ck_get kk_Mo_termOf 59 rfl) (by decide) rfl ?_
              have q0 : xq = 0 := (lcmp_eq _ _).mp hc95
              have q := xqe ▸ q0
              exact rest none 1 true (by rw [dvw, if_pos q]) (by rw [dvb, bI_t1 hc103]; rfl)
            · refine wp_iload_n rfl (ck_get kk_Mo_termOf 52 rfl) ?_
              first | refine wp_if_eqN (t := 114) (ck_get kk_Mo_termOf 53 rfl) (by decide) (by omega) (fun hc107 => ?_) (fun hc107 => ?_) | refine wp_if_eq (t := 114) (ck_get kk_Mo_termOf 53 rfl) (by decide) (fun hc107 => ?_) (fun hc107 => ?_)
              · refine wp_iconst (v := nI 0) (by decide) (ck_get kk_Mo_termOf 56 rfl) ?_
                refine wp_putI (ck_get kk_Mo_termOf 57 rfl) fl_Mo_304 (by decide +kernel) (by assumption) (by first | exact okI_b0 | exact okI_b1) ?_
                rw [show (nI 0 : Int32) = bI false from rfl, emM_br]
                refine wp_lconst (v := 1) (by decide) (ck_get kk_Mo_termOf 58 rfl) ?_
                refine wp_lstore (ck_get kk_Mo_termOf 59 rfl) (by decide) rfl ?_
                have q0 : xq = 0 := (lcmp_eq _ _).mp hc95
                have q := xqe ▸ q0
                exact rest none 1 false (by rw [dvw, if_pos q]) (by rw [dvb, bI_t0 hc103, bI_t0 hc107]; simp)
              · refine wp_iconst (v := nI 1) (by decide) (ck_get kk_Mo_termOf 54 rfl) ?_
                refine wp_goto (t := 115) (ck_get kk_Mo_termOf 55 rfl) (by decide) ?_
                refine wp_putI (ck_get kk_Mo_termOf 57 rfl) fl_Mo_304 (by decide +kernel) (by assumption) (by first | exact okI_b0 | exact okI_b1) ?_
                rw [show (nI 1 : Int32) = bI true from rfl, emM_br]
                refine wp_lconst (v := 1) (by decide) (ck_get kk_Mo_termOf 58 rfl) ?_
                refine wp_lstore (ck_get kk_Mo_termOf 59 rfl) (by decide) rfl ?_
                have q0 : xq = 0 := (lcmp_eq _ _).mp hc95
                have q := xqe ▸ q0
                exact rest none 1 true (by rw [dvw, if_pos q]) (by rw [dvb, decide_eq_true q, bI_t1 hc107]; simp)
end MT
