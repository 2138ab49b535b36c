/-! ===== MissCurvesModel: parts, step by step ===== -/
section MP
variable {g : Gl} {M : Mem} {o ge n : Nat}
/-- nothing is told where it isn't asked, or broken -/
def lvd (live b : Bool) (v : Int64) : Int64 := if live = true ∧ b = false then v else 0
theorem lvd_no {live b : Bool} {v : Int64} (h : bI live = 0) : lvd live b v = 0 := by rw [lvd, if_neg (by rw [bI_t0 h]; simp)]
theorem lvd_br {live b : Bool} {v : Int64} (h : ¬ bI b = 0) : lvd live b v = 0 := by rw [lvd, if_neg (by rw [bI_t1 h]; simp)]
theorem lvd_yes {live b : Bool} {v : Int64} (h : ¬ bI live = 0) (h2 : bI b = 0) : lvd live b v = v := by rw [lvd, if_pos ⟨bI_t1 h, bI_t0 h2⟩]
theorem me_partBr {live b b1 : Bool} {i i1 : Nat} {v : Int64} (hM : MoAt (mT M) (mR M) o) (hge : mI M o 26 = nI ge) (hg2 : ge ≤ 2800) (hi : i < 100000) (h1 : tcd (mI M (o + 2)) ge i = nI 191) (hn : 1 ≤ n) (hT : Cl g Y_Mo_sumOf n [.ref o, .int (bI live)] (emM M o (i + 1) b) (fun x M2 => x = v ∧ M2 = emM M o i1 b1)) :
    Cl g Y_Mo_partOf (n + 1) [.ref o, .int (bI live)] (emM M o i b) (fun x M2 => x = v ∧ M2 = emM M o (i1 + 1) b1) := by
  refine cw_entry 2 pf_Mo_partOf rfl ?_
  have hM0 := hM
  have to0 := hM.1
  refine wp_aload_n rfl (ck_get kk_Mo_partOf 0 rfl) ?_
  refine wp_bipush (v := nI 91) (by decide) (ck_get kk_Mo_partOf 1 rfl) ?_
  refine wp_cS1i (ck_get kk_Mo_partOf 2 rfl) ml_Mo_253 (by omega) (Nat.le_of_ble_eq_true rfl) (Ci.to (m_signOf) ?_)
  rintro _ M1 ⟨rfl, eqm1⟩
  obtain rfl := eqm1.symm
  refine wp_cV1i (ck_get kk_Mo_partOf 3 rfl) ml_Mo_318 (by omega) (Nat.le_of_ble_eq_true rfl) (by assumption) (Ci.to (m_passes (by exact hM0) hge hg2 hi) ?_)
  rintro x₁ M₁ ⟨rfl, rfl⟩
  rw [decide_eq_true h1, if_pos h1]
  first | refine wp_if_eqN (t := 30) (ck_get kk_Mo_partOf 4 rfl) (by decide) (by omega) (fun hc9 => ?_) (fun hc9 => ?_) | refine wp_if_eq (t := 30) (ck_get kk_Mo_partOf 4 rfl) (by decide) (fun hc9 => ?_) (fun hc9 => ?_)
  · exact absurd hc9 (by decide)
  · refine wp_aload_n rfl (ck_get kk_Mo_partOf 5 rfl) ?_
    refine wp_iload_n rfl (ck_get kk_Mo_partOf 6 rfl) ?_
    refine wp_cV1l (ck_get kk_Mo_partOf 7 rfl) ml_Mo_321 (by omega) (Nat.le_of_ble_eq_true rfl) (by assumption) (Cl.to (hT) ?_)
    rintro x₂ M₂ ⟨rfl, rfl⟩
    refine wp_lstore_n (ck_get kk_Mo_partOf 8 rfl) (by decide) rfl ?_
    refine wp_aload_n rfl (ck_get kk_Mo_partOf 9 rfl) ?_
    refine wp_dup rfl (ck_get kk_Mo_partOf 10 rfl) ?_
    refine wp_getIv (v := nI i1) (ck_get kk_Mo_partOf 11 rfl) fl_Mo_294 (by assumption) (emM_25) ?_
    refine wp_iconst (v := nI 1) (by decide) (ck_get kk_Mo_partOf 12 rfl) ?_
    first | refine wp_iaddN (ck_get kk_Mo_partOf 13 rfl) ?_ | refine wp_iadd (ck_get kk_Mo_partOf 13 rfl) ?_
    refine wp_putI (ck_get kk_Mo_partOf 14 rfl) fl_Mo_294 (by decide +kernel) (by assumption) (okI_int _) ?_
    rw [emM_go]
    refine wp_lload_n rfl (ck_get kk_Mo_partOf 15 rfl) ?_
    refine wp_lreturn (ck_get kk_Mo_partOf 16 rfl) rfl ⟨_, rfl, ?_⟩
    exact ⟨rfl, rfl⟩
theorem me_partNum {live b : Bool} {i : Nat} (hM : MoAt (mT M) (mR M) o) (hge : mI M o 26 = nI ge) (hg2 : ge ≤ 2800) (hi : i < 2800) (h1 : tcd (mI M (o + 2)) ge i = nI 50) :
    Cl g Y_Mo_partOf (n + 2) [.ref o, .int (bI live)] (emM M o i b) (fun x M2 => x = lvd live b (mI M (o + 2) (3195 + i)).toInt64 ∧ M2 = emM M o (i + 1) b) := by
  refine cw_entry 2 pf_Mo_partOf rfl ?_
  have hM0 := hM
  have to0 := hM.1
  have rfkept := MoAt.r hM 1 rfl
  have tfkept := MoAt.t hM 1 rfl
  have fin : ∀ x3 : Option Value, Wp g Y_Mo_partOf (n + 2) 94 [some (.ref o), some (.int (bI live)), some (.int (tcd (mI M (o + 2)) ge i)), x3] [] (emM M o (i + 1) b) (fun r M2 => ∃ x, r = some (.long x) ∧ x = lvd live b (mI M (o + 2) (3195 + i)).toInt64 ∧ M2 = emM M o (i + 1) b) := by
    intro x3
    refine wp_iload_n rfl (ck_get kk_Mo_partOf 53 rfl) ?_
    first | refine wp_if_eqN (t := 105) (ck_get kk_Mo_partOf 54 rfl) (by decide) (by omega) (fun hc95 => ?_) (fun hc95 => ?_) | refine wp_if_eq (t := 105) (ck_get kk_Mo_partOf 54 rfl) (by decide) (fun hc95 => ?_) (fun hc95 => ?_)
    · refine wp_lconst (v := 0) (by decide) (ck_get kk_Mo_partOf 58 rfl) ?_
      refine wp_lreturn (ck_get kk_Mo_partOf 59 rfl) rfl ⟨_, rfl, ?_⟩
      exact ⟨(lvd_no hc95).symm, rfl⟩
    · refine wp_aload_n rfl (ck_get kk_Mo_partOf 55 rfl) ?_
      refine wp_getIv (v := bI b) (ck_get kk_Mo_partOf 56 rfl) fl_Mo_304 (by assumption) (emM_27) ?_
      first | refine wp_if_eqN (t := 107) (ck_get kk_Mo_partOf 57 rfl) (by decide) (by omega) (fun hc102 => ?_) (fun hc102 => ?_) | refine wp_if_eq (t := 107) (ck_get kk_Mo_partOf 57 rfl) (by decide) (fun hc102 => ?_) (fun hc102 => ?_)
      · refine wp_iload_n rfl (ck_get kk_Mo_partOf 60 rfl) ?_
        refine wp_bipush (v := nI 50) (by decide) (ck_get kk_Mo_partOf 61 rfl) ?_
        refine wp_icmp_ne (t := 130) (ck_get kk_Mo_partOf 62 rfl) (by decide) (fun hc110 => ?_) (fun hc110 => ?_)
        · exact absurd h1 hc110
        · refine wp_aload_n rfl (ck_get kk_Mo_partOf 63 rfl) ?_
          refine wp_getR (ck_get kk_Mo_partOf 64 rfl) fl_Mo_28 (by assumption) (by assumption) ?_
          refine wp_sipush (v := nI 3195) (by decide) (ck_get kk_Mo_partOf 65 rfl) ?_
          refine wp_aload_n rfl (ck_get kk_Mo_partOf 66 rfl) ?_
          refine wp_getIv (v := nI (i + 1)) (ck_get kk_Mo_partOf 67 rfl) fl_Mo_294 (by assumption) (emM_25) ?_
          first | refine wp_iaddN (ck_get kk_Mo_partOf 68 rfl) ?_ | refine wp_iadd (ck_get kk_Mo_partOf 68 rfl) ?_
          refine wp_iconst (v := nI 1) (by decide) (ck_get kk_Mo_partOf 69 rfl) ?_
          refine wp_isubN (ck_get kk_Mo_partOf 70 rfl) (by omega) ?_
          rw [show 3195 + (i + 1) - 1 = 3195 + i by omega]
          refine wp_ialdv (v := mI M (o + 2) (3195 + i)) (ck_get kk_Mo_partOf 71 rfl) (by assumption) (ixk_nI (k := 3195 + i) (by omega) (by omega)) (by rw [emM_a (by omega)]) ?_
          refine wp_i2l (ck_get kk_Mo_partOf 72 rfl) ?_
          refine wp_lreturn (ck_get kk_Mo_partOf 73 rfl) rfl ⟨_, rfl, ?_⟩
          exact ⟨(lvd_yes hc95 hc102).symm, rfl⟩
      · refine wp_lconst (v := 0) (by decide) (ck_get kk_Mo_partOf 58 rfl) ?_
        refine wp_lreturn (ck_get kk_Mo_partOf 59 rfl) rfl ⟨_, rfl, ?_⟩
        exact ⟨(lvd_br hc102).symm, rfl⟩
  refine wp_aload_n rfl (ck_get kk_Mo_partOf 0 rfl) ?_
  refine wp_bipush (v := nI 91) (by decide) (ck_get kk_Mo_partOf 1 rfl) ?_
  refine wp_cS1i (ck_get kk_Mo_partOf 2 rfl) ml_Mo_253 (by omega) (Nat.le_of_ble_eq_true rfl) (Ci.to (m_signOf) ?_)
  rintro _ M1 ⟨rfl, eqm1⟩
  obtain rfl := eqm1.symm
  refine wp_cV1i (ck_get kk_Mo_partOf 3 rfl) ml_Mo_318 (by omega) (Nat.le_of_ble_eq_true rfl) (by assumption) (Ci.to (m_passes (by exact hM0) hge hg2 (by omega)) ?_)
  rintro x₁ M₁ ⟨rfl, rfl⟩
  rw [decide_eq_false (by rw [h1]; decide), if_neg (by rw [h1]; decide)]
  first | refine wp_if_eqN (t := 30) (ck_get kk_Mo_partOf 4 rfl) (by decide) (by omega) (fun hc9 => ?_) (fun hc9 => ?_) | refine wp_if_eq (t := 30) (ck_get kk_Mo_partOf 4 rfl) (by decide) (fun hc9 => ?_) (fun hc9 => ?_)
  · refine wp_aload_n rfl (ck_get kk_Mo_partOf 17 rfl) ?_
    refine wp_aload_n rfl (ck_get kk_Mo_partOf 18 rfl) ?_
    refine wp_getIv (v := nI i) (ck_get kk_Mo_partOf 19 rfl) fl_Mo_294 (by assumption) (emM_25) ?_
    refine wp_cV1i (ck_get kk_Mo_partOf 20 rfl) ml_Mo_297 (by omega) (Nat.le_of_ble_eq_true rfl) (by assumption) (Ci.to (m_codeAt (by exact hM0) hge hg2 (by omega)) ?_)
    rintro _ M1 ⟨rfl, eqm1⟩
    obtain rfl := eqm1.symm
    refine wp_istore_n (ck_get kk_Mo_partOf 21 rfl) (by decide) rfl ?_
    refine wp_iconst (v := nI 0) (by decide) (ck_get kk_Mo_partOf 22 rfl) ?_
    refine wp_istore_n (ck_get kk_Mo_partOf 23 rfl) (by decide) rfl ?_
    refine wp_aload_n rfl (ck_get kk_Mo_partOf 24 rfl) ?_
    refine wp_dup rfl (ck_get kk_Mo_partOf 25 rfl) ?_
    refine wp_getIv (v := nI i) (ck_get kk_Mo_partOf 26 rfl) fl_Mo_294 (by assumption) (emM_25) ?_
    refine wp_iconst (v := nI 1) (by decide) (ck_get kk_Mo_partOf 27 rfl) ?_
    first | refine wp_iaddN (ck_get kk_Mo_partOf 28 rfl) ?_ | refine wp_iadd (ck_get kk_Mo_partOf 28 rfl) ?_
    refine wp_putI (ck_get kk_Mo_partOf 29 rfl) fl_Mo_294 (by decide +kernel) (by assumption) (okI_int _) ?_
    rw [emM_go]
    refine wp_aload_n rfl (ck_get kk_Mo_partOf 30 rfl) ?_
    first | refine wp_getIv (ck_get kk_Mo_partOf 31 rfl) fl_Mo_324 (by assumption) (by assumption) ?_ | refine wp_getI (ck_get kk_Mo_partOf 31 rfl) fl_Mo_324 (by assumption) ?_
    first | refine wp_if_eqN (t := 94) (ck_get kk_Mo_partOf 32 rfl) (by decide) (by omega) (fun hc55 => ?_) (fun hc55 => ?_) | refine wp_if_eq (t := 94) (ck_get kk_Mo_partOf 32 rfl) (by decide) (fun hc55 => ?_) (fun hc55 => ?_)
    · exact fin _
    · refine wp_iload_n rfl (ck_get kk_Mo_partOf 33 rfl) ?_
      refine wp_bipush (v := nI 15) (by decide) (ck_get kk_Mo_partOf 34 rfl) ?_
      refine wp_icmp_eq (t := 70) (ck_get kk_Mo_partOf 35 rfl) (by decide) (fun hc61 => ?_) (fun hc61 => ?_)
      · rw [h1] at hc61; exact absurd hc61 (by decide)
      · refine wp_iload_n rfl (ck_get kk_Mo_partOf 36 rfl) ?_
        refine wp_bipush (v := nI 16) (by decide) (ck_get kk_Mo_partOf 37 rfl) ?_
        refine wp_icmp_ne (t := 94) (ck_get kk_Mo_partOf 38 rfl) (by decide) (fun hc67 => ?_) (fun hc67 => ?_)
        · exact fin _
        · rw [h1] at hc67; exact absurd hc67 (by decide)
  · exact absurd rfl hc9
theorem me_partLaw {live b : Bool} {i k : Nat} (hM : MoAt (mT M) (mR M) o) (hge : mI M o 26 = nI ge) (hg2 : ge ≤ 2800) (hi : i < 2800) (hio : mI M o 28 = 0) (hk : k < 6) (h1 : tcd (mI M (o + 2)) ge i = nI (7 + k)) :
    Cl g Y_Mo_partOf (n + 2) [.ref o, .int (bI live)] (emM M o i b) (fun x M2 => x = lvd live b (mI M (o + 15) k).toInt64 ∧ M2 = emM M o (i + 1) b) := by
  refine cw_entry 2 pf_Mo_partOf rfl ?_
  have hM0 := hM
  have to0 := hM.1
  have rfkept := MoAt.r hM 1 rfl
  have tfkept := MoAt.t hM 1 rfl
  have rfasked := MoAt.r hM 14 rfl
  have tfasked := MoAt.t hM 14 rfl
  have hne : ∀ c : Nat, c < 7 ∨ 13 ≤ c → c < 1000 → ¬ tcd (mI M (o + 2)) ge i = nI c := by
    intro c hc hc2 q
    rw [h1] at q
    have := (nI_eq (by omega) (by omega)).mp q
    omega
  refine wp_aload_n rfl (ck_get kk_Mo_partOf 0 rfl) ?_
  refine wp_bipush (v := nI 91) (by decide) (ck_get kk_Mo_partOf 1 rfl) ?_
  refine wp_cS1i (ck_get kk_Mo_partOf 2 rfl) ml_Mo_253 (by omega) (Nat.le_of_ble_eq_true rfl) (Ci.to (m_signOf) ?_)
  rintro _ M1 ⟨rfl, eqm1⟩
  obtain rfl := eqm1.symm
  refine wp_cV1i (ck_get kk_Mo_partOf 3 rfl) ml_Mo_318 (by omega) (Nat.le_of_ble_eq_true rfl) (by assumption) (Ci.to (m_passes (by exact hM0) hge hg2 (by omega)) ?_)
  rintro x₁ M₁ ⟨rfl, rfl⟩
  rw [decide_eq_false (hne _ (by omega) (by omega)), if_neg (hne _ (by omega) (by omega))]
  first | refine wp_if_eqN (t := 30) (ck_get kk_Mo_partOf 4 rfl) (by decide) (by omega) (fun hc9 => ?_) (fun hc9 => ?_) | refine wp_if_eq (t := 30) (ck_get kk_Mo_partOf 4 rfl) (by decide) (fun hc9 => ?_) (fun hc9 => ?_)
  · refine wp_aload_n rfl (ck_get kk_Mo_partOf 17 rfl) ?_
    refine wp_aload_n rfl (ck_get kk_Mo_partOf 18 rfl) ?_
    refine wp_getIv (v := nI i) (ck_get kk_Mo_partOf 19 rfl) fl_Mo_294 (by assumption) (emM_25) ?_
    refine wp_cV1i (ck_get kk_Mo_partOf 20 rfl) ml_Mo_297 (by omega) (Nat.le_of_ble_eq_true rfl) (by assumption) (Ci.to (m_codeAt (by exact hM0) hge hg2 (by omega)) ?_)
    rintro _ M1 ⟨rfl, eqm1⟩
    obtain rfl := eqm1.symm
    refine wp_istore_n (ck_get kk_Mo_partOf 21 rfl) (by decide) rfl ?_
    refine wp_iconst (v := nI 0) (by decide) (ck_get kk_Mo_partOf 22 rfl) ?_
    refine wp_istore_n (ck_get kk_Mo_partOf 23 rfl) (by decide) rfl ?_
    refine wp_aload_n rfl (ck_get kk_Mo_partOf 24 rfl) ?_
    refine wp_dup rfl (ck_get kk_Mo_partOf 25 rfl) ?_
    refine wp_getIv (v := nI i) (ck_get kk_Mo_partOf 26 rfl) fl_Mo_294 (by assumption) (emM_25) ?_
    refine wp_iconst (v := nI 1) (by decide) (ck_get kk_Mo_partOf 27 rfl) ?_
    first | refine wp_iaddN (ck_get kk_Mo_partOf 28 rfl) ?_ | refine wp_iadd (ck_get kk_Mo_partOf 28 rfl) ?_
    refine wp_putI (ck_get kk_Mo_partOf 29 rfl) fl_Mo_294 (by decide +kernel) (by assumption) (okI_int _) ?_
    rw [emM_go]
    refine wp_aload_n rfl (ck_get kk_Mo_partOf 30 rfl) ?_
    refine wp_getIv (v := 0) (ck_get kk_Mo_partOf 31 rfl) fl_Mo_324 (by assumption) (by rw [emM_f (by omega) (by omega)]; exact hio) ?_
    first | refine wp_if_eqN (t := 94) (ck_get kk_Mo_partOf 32 rfl) (by decide) (by omega) (fun hc55 => ?_) (fun hc55 => ?_) | refine wp_if_eq (t := 94) (ck_get kk_Mo_partOf 32 rfl) (by decide) (fun hc55 => ?_) (fun hc55 => ?_)
    · refine wp_iload_n rfl (ck_get kk_Mo_partOf 53 rfl) ?_
      first | refine wp_if_eqN (t := 105) (ck_get kk_Mo_partOf 54 rfl) (by decide) (by omega) (fun hc95 => ?_) (fun hc95 => ?_) | refine wp_if_eq (t := 105) (ck_get kk_Mo_partOf 54 rfl) (by decide) (fun hc95 => ?_) (fun hc95 => ?_)
      · refine wp_lconst (v := 0) (by decide) (ck_get kk_Mo_partOf 58 rfl) ?_
        refine wp_lreturn (ck_get kk_Mo_partOf 59 rfl) rfl ⟨_, rfl, ?_⟩
        exact ⟨(lvd_no hc95).symm, rfl⟩
      · refine wp_aload_n rfl (ck_get kk_Mo_partOf 55 rfl) ?_
        refine wp_getIv (v := bI b) (ck_get kk_Mo_partOf 56 rfl) fl_Mo_304 (by assumption) (emM_27) ?_
        first | refine wp_if_eqN (t := 107) (ck_get kk_Mo_partOf 57 rfl) (by decide) (by omega) (fun hc102 => ?_) (fun hc102 => ?_) | refine wp_if_eq (t := 107) (ck_get kk_Mo_partOf 57 rfl) (by decide) (fun hc102 => ?_) (fun hc102 => ?_)
        · refine wp_iload_n rfl (ck_get kk_Mo_partOf 60 rfl) ?_
          refine wp_bipush (v := nI 50) (by decide) (ck_get kk_Mo_partOf 61 rfl) ?_
          refine wp_icmp_ne (t := 130) (ck_get kk_Mo_partOf 62 rfl) (by decide) (fun hc110 => ?_) (fun hc110 => ?_)
          · refine wp_aload_n rfl (ck_get kk_Mo_partOf 74 rfl) ?_
            refine wp_getIv (v := 0) (ck_get kk_Mo_partOf 75 rfl) fl_Mo_324 (by assumption) (by rw [emM_f (by omega) (by omega)]; exact hio) ?_
            first | refine wp_if_eqN (t := 147) (ck_get kk_Mo_partOf 76 rfl) (by decide) (by omega) (fun hc134 => ?_) (fun hc134 => ?_) | refine wp_if_eq (t := 147) (ck_get kk_Mo_partOf 76 rfl) (by decide) (fun hc134 => ?_) (fun hc134 => ?_)
            · refine wp_aload_n rfl (ck_get kk_Mo_partOf 83 rfl) ?_
              refine wp_getR (ck_get kk_Mo_partOf 84 rfl) fl_Mo_73 (by assumption) (by assumption) ?_
              refine wp_iload_n rfl (ck_get kk_Mo_partOf 85 rfl) ?_
              refine wp_bipush (v := nI 7) (by decide) (ck_get kk_Mo_partOf 86 rfl) ?_
              rw [h1]
              refine wp_isubN (ck_get kk_Mo_partOf 87 rfl) (by omega) ?_
              rw [show 7 + k - 7 = k by omega]
              refine wp_ialdv (v := mI M (o + 15) k) (ck_get kk_Mo_partOf 88 rfl) (by assumption) (ixk_nI (k := k) (by omega) (by omega)) (by rw [emM_a (by omega)]) ?_
              refine wp_i2l (ck_get kk_Mo_partOf 89 rfl) ?_
              refine wp_lreturn (ck_get kk_Mo_partOf 90 rfl) rfl ⟨_, rfl, ?_⟩
              exact ⟨(lvd_yes hc95 hc102).symm, rfl⟩
            · exact absurd rfl hc134
          · exact absurd hc110 (hne _ (by omega) (by omega))
        · refine wp_lconst (v := 0) (by decide) (ck_get kk_Mo_partOf 58 rfl) ?_
          refine wp_lreturn (ck_get kk_Mo_partOf 59 rfl) rfl ⟨_, rfl, ?_⟩
          exact ⟨(lvd_br hc102).symm, rfl⟩
    · exact absurd rfl hc55
  · exact absurd rfl hc9
end MP
