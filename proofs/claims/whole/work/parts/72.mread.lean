/-! ===== the model reads tokens ===== -/
/-- the memory while tokens are read: the token, parts, the fault -/
abbrev rdM (M : Mem) (o i lf : Nat) (b : Int32) : Mem := mk2 M (up1 (mI M) o (up1 (up1 (up1 (mI M o) 22 (nI i)) 23 (nI lf)) 24 b)) (mJ M)
section MRD
variable {g : Gl} {M : Mem} {o N : Nat} {tc tv pl : Nat → Nat} {od : Bool} {f i lf : Nat} {b : Int32}
theorem rdM_22 : mI (rdM M o i lf b) o 22 = nI i := by
  show up1 (mI M) o _ o 22 = _
  rw [up1_eq, up1_ne (by omega), up1_ne (by omega), up1_eq]
theorem rdM_23 : mI (rdM M o i lf b) o 23 = nI lf := by
  show up1 (mI M) o _ o 23 = _
  rw [up1_eq, up1_ne (by omega), up1_eq]
theorem rdM_24 : mI (rdM M o i lf b) o 24 = b := by
  show up1 (mI M) o _ o 24 = _
  rw [up1_eq, up1_eq]
theorem rdM_f {k : Nat} (h : k < 22) : mI (rdM M o i lf b) o k = mI M o k := by
  show up1 (mI M) o _ o k = _
  rw [up1_eq, up1_ne (by omega), up1_ne (by omega), up1_ne (by omega)]
theorem rdM_a {x : Nat} (h : x ≠ o) : mI (rdM M o i lf b) x = mI M x := up1_ne h
theorem rdM_w22 {q : Nat} : sI (rdM M o i lf b) o 22 (nI q) = rdM M o q lf b := by
  refine congrArg (fun I => mk2 M I (mJ M)) ?_
  show up2 (up1 (mI M) o _) o 22 (nI q) = _
  rw [up2_up1, up1_up1, up1_eq, up1_comm _ (by omega : 24 ≠ 22), up1_comm _ (by omega : 23 ≠ 22), up1_up1]
theorem rdM_w23 {q : Nat} : sI (rdM M o i lf b) o 23 (nI q) = rdM M o i q b := by
  refine congrArg (fun I => mk2 M I (mJ M)) ?_
  show up2 (up1 (mI M) o _) o 23 (nI q) = _
  rw [up2_up1, up1_up1, up1_eq, up1_comm _ (by omega : 24 ≠ 23), up1_up1]
theorem rdM_w24 {q : Int32} : sI (rdM M o i lf b) o 24 q = rdM M o i lf q := by
  refine congrArg (fun I => mk2 M I (mJ M)) ?_
  show up2 (up1 (mI M) o _) o 24 q = _
  rw [up2_up1, up1_up1, up1_eq, up1_up1]
/-- the tokens as the model has them -/
def TkOK (M : Mem) (o N : Nat) (tc tv pl : Nat → Nat) (od : Bool) : Prop := MoAt (mT M) (mR M) o ∧ N ≤ 400 ∧ (∀ i, tc i ≠ 0 → i < N) ∧ (∀ i, tc i < 400) ∧ (∀ i, pl i < 1000) ∧ (∀ i, i ≤ N → mI M (o + 12) i = nI (tc i) ∧ (∃ v, mI M (o + 13) i = nI v ∧ v < 20000000 ∧ (tc i = 50 → min v 1001 = tv i)) ∧ mI M (o + 14) i = nI (pl i)) ∧ mI M o 13 = bI od ∧ mI M o 11 = nI (if od = true then 12 else 7) ∧ mI M o 12 = nI (if od = true then 16 else 12)
theorem nI_m1 {w : Nat} (h : w < 1000) : ¬ nI w = -1 := nI_nm1 h
theorem m_fineY (hM : MoAt (mT M) (mR M) o) : Ci g Y_Mo_fine 0 [.ref o] (rdM M o i lf (-1)) (fun x M2 => x = nI 1 ∧ M2 = rdM M o i lf (-1)) := by
  have to0 := hM.1
  refine cw_entry 0 pf_Mo_fine rfl ?_
  refine wp_aload_n rfl (ck_get kk_Mo_fine 0 rfl) ?_
  refine wp_getIv (v := -1) (ck_get kk_Mo_fine 1 rfl) fl_Mo_201 (by assumption) (rdM_24) ?_
  refine wp_iconst (v := (-1)) (by decide) (ck_get kk_Mo_fine 2 rfl) ?_
  refine wp_icmp_ne (t := 12) (ck_get kk_Mo_fine 3 rfl) (by decide) (fun hc5 => ?_) (fun hc5 => ?_)
  · exact absurd rfl hc5
  · refine wp_iconst (v := nI 1) (by decide) (ck_get kk_Mo_fine 4 rfl) ?_
    refine wp_goto (t := 13) (ck_get kk_Mo_fine 5 rfl) (by decide) ?_
    refine wp_ireturn (ck_get kk_Mo_fine 7 rfl) rfl rfl ⟨_, rfl, ?_⟩
    exact ⟨rfl, rfl⟩
theorem m_fineN (hM : MoAt (mT M) (mR M) o) (hb : ¬ b = -1) : Ci g Y_Mo_fine 0 [.ref o] (rdM M o i lf b) (fun x M2 => x = nI 0 ∧ M2 = rdM M o i lf b) := by
  have to0 := hM.1
  refine cw_entry 0 pf_Mo_fine rfl ?_
  refine wp_aload_n rfl (ck_get kk_Mo_fine 0 rfl) ?_
  refine wp_getIv (v := b) (ck_get kk_Mo_fine 1 rfl) fl_Mo_201 (by assumption) (rdM_24) ?_
  refine wp_iconst (v := (-1)) (by decide) (ck_get kk_Mo_fine 2 rfl) ?_
  refine wp_icmp_ne (t := 12) (ck_get kk_Mo_fine 3 rfl) (by decide) (fun hc5 => ?_) (fun hc5 => ?_)
  · refine wp_iconst (v := nI 0) (by decide) (ck_get kk_Mo_fine 6 rfl) ?_
    refine wp_ireturn (ck_get kk_Mo_fine 7 rfl) rfl rfl ⟨_, rfl, ?_⟩
    exact ⟨rfl, rfl⟩
  · exact absurd hc5 hb
theorem m_faultsY (hT : TkOK M o N tc tv pl od) (hi : i ≤ N) : Cv g Y_Mo_faults 1 [.ref o] (rdM M o i lf (-1)) (fun M2 => M2 = rdM M o i lf (nI (pl i))) := by
  obtain ⟨hM, hN, hN2, hc4, hpl, hTk, h13, h11, h12⟩ := hT
  have hM0 := hM
  have to0 := hM.1
  have rfplaced := MoAt.r hM 13 rfl
  have tfplaced := MoAt.t hM 13 rfl
  refine cw_entry 0 pf_Mo_faults rfl ?_
  refine wp_aload_n rfl (ck_get kk_Mo_faults 0 rfl) ?_
  refine wp_cV0i (ck_get kk_Mo_faults 1 rfl) ml_Mo_204 (by omega) (Nat.le_of_ble_eq_true rfl) (by assumption) (Ci.to (m_fineY hM0) ?_)
  rintro _ M1 ⟨rfl, eqm1⟩
  obtain rfl := eqm1.symm
  first | refine wp_if_eqN (t := 20) (ck_get kk_Mo_faults 2 rfl) (by decide) (by omega) (fun hc4 => ?_) (fun hc4 => ?_) | refine wp_if_eq (t := 20) (ck_get kk_Mo_faults 2 rfl) (by decide) (fun hc4 => ?_) (fun hc4 => ?_)
  · omega
  · refine wp_aload_n rfl (ck_get kk_Mo_faults 3 rfl) ?_
    refine wp_aload_n rfl (ck_get kk_Mo_faults 4 rfl) ?_
    refine wp_getR (ck_get kk_Mo_faults 5 rfl) fl_Mo_70 (by assumption) (by assumption) ?_
    refine wp_aload_n rfl (ck_get kk_Mo_faults 6 rfl) ?_
    refine wp_getIv (v := nI i) (ck_get kk_Mo_faults 7 rfl) fl_Mo_208 (by assumption) (rdM_22) ?_
    refine wp_ialdv (v := nI (pl i)) (ck_get kk_Mo_faults 8 rfl) (by assumption) (ixk_nI (k := i) (by omega) (by omega)) (by rw [rdM_a (by omega)]; exact (hTk i hi).2.2) ?_
    refine wp_putI (ck_get kk_Mo_faults 9 rfl) fl_Mo_201 (by decide +kernel) (by assumption) (okI_int _) ?_
    rw [rdM_w24]
    refine wp_return (ck_get kk_Mo_faults 10 rfl) rfl ⟨rfl, ?_⟩
    rfl
theorem m_faultsN (hM : MoAt (mT M) (mR M) o) (hb : ¬ b = -1) : Cv g Y_Mo_faults 1 [.ref o] (rdM M o i lf b) (fun M2 => M2 = rdM M o i lf b) := by
  have to0 := hM.1
  refine cw_entry 0 pf_Mo_faults rfl ?_
  refine wp_aload_n rfl (ck_get kk_Mo_faults 0 rfl) ?_
  refine wp_cV0i (ck_get kk_Mo_faults 1 rfl) ml_Mo_204 (by omega) (Nat.le_of_ble_eq_true rfl) (by assumption) (Ci.to (m_fineN hM hb) ?_)
  rintro _ M1 ⟨rfl, eqm1⟩
  obtain rfl := eqm1.symm
  first | refine wp_if_eqN (t := 20) (ck_get kk_Mo_faults 2 rfl) (by decide) (by omega) (fun hc4 => ?_) (fun hc4 => ?_) | refine wp_if_eq (t := 20) (ck_get kk_Mo_faults 2 rfl) (by decide) (fun hc4 => ?_) (fun hc4 => ?_)
  · refine wp_return (ck_get kk_Mo_faults 10 rfl) rfl ⟨rfl, ?_⟩
    rfl
  · omega
theorem m_takesY {c : Nat} (hT : TkOK M o N tc tv pl od) (hi : i ≤ N) (h : tc i = c) : Ci g Y_Mo_takes0 1 [.ref o, .int (nI c)] (rdM M o i lf (-1)) (fun x M2 => x = nI 1 ∧ M2 = rdM M o (i + 1) lf (-1)) := by
  obtain ⟨hM, hN, hN2, hc4, hpl, hTk, h13, h11, h12⟩ := hT
  have hM0 := hM
  have := hc4 i
  have to0 := hM.1
  have rfcode := MoAt.r hM 11 rfl
  have tfcode := MoAt.t hM 11 rfl
  refine cw_entry 1 pf_Mo_takes0 rfl ?_
  refine wp_aload_n rfl (ck_get kk_Mo_takes0 0 rfl) ?_
  refine wp_cV0i (ck_get kk_Mo_takes0 1 rfl) ml_Mo_204 (by omega) (Nat.le_of_ble_eq_true rfl) (by assumption) (Ci.to (m_fineY hM0) ?_)
  rintro _ M1 ⟨rfl, eqm1⟩
  obtain rfl := eqm1.symm
  first | refine wp_if_eqN (t := 24) (ck_get kk_Mo_takes0 2 rfl) (by decide) (by omega) (fun hc4 => ?_) (fun hc4 => ?_) | refine wp_if_eq (t := 24) (ck_get kk_Mo_takes0 2 rfl) (by decide) (fun hc4 => ?_) (fun hc4 => ?_)
  · omega
  · refine wp_aload_n rfl (ck_get kk_Mo_takes0 3 rfl) ?_
    refine wp_getR (ck_get kk_Mo_takes0 4 rfl) fl_Mo_64 (by assumption) (by assumption) ?_
    refine wp_aload_n rfl (ck_get kk_Mo_takes0 5 rfl) ?_
    refine wp_getIv (v := nI i) (ck_get kk_Mo_takes0 6 rfl) fl_Mo_208 (by assumption) (rdM_22) ?_
    refine wp_ialdv (v := nI (tc i)) (ck_get kk_Mo_takes0 7 rfl) (by assumption) (ixk_nI (k := i) (by omega) (by omega)) (by rw [rdM_a (by omega)]; exact (hTk i hi).1) ?_
    refine wp_iload_n rfl (ck_get kk_Mo_takes0 8 rfl) ?_
    first | refine wp_icmp_neN (t := 24) (ck_get kk_Mo_takes0 9 rfl) (by decide) (by omega) (by omega) (fun hc17 => ?_) (fun hc17 => ?_) | refine wp_icmp_ne (t := 24) (ck_get kk_Mo_takes0 9 rfl) (by decide) (fun hc17 => ?_) (fun hc17 => ?_)
    · omega
    · refine wp_iconst (v := nI 1) (by decide) (ck_get kk_Mo_takes0 10 rfl) ?_
      refine wp_goto (t := 25) (ck_get kk_Mo_takes0 11 rfl) (by decide) ?_
      refine wp_istore_n (ck_get kk_Mo_takes0 13 rfl) (by decide) rfl ?_
      refine wp_iload_n rfl (ck_get kk_Mo_takes0 14 rfl) ?_
      first | refine wp_if_eqN (t := 40) (ck_get kk_Mo_takes0 15 rfl) (by decide) (by omega) (fun hc27 => ?_) (fun hc27 => ?_) | refine wp_if_eq (t := 40) (ck_get kk_Mo_takes0 15 rfl) (by decide) (fun hc27 => ?_) (fun hc27 => ?_)
      · omega
      · refine wp_aload_n rfl (ck_get kk_Mo_takes0 16 rfl) ?_
        refine wp_dup rfl (ck_get kk_Mo_takes0 17 rfl) ?_
        refine wp_getIv (v := nI i) (ck_get kk_Mo_takes0 18 rfl) fl_Mo_208 (by assumption) (rdM_22) ?_
        refine wp_iconst (v := nI 1) (by decide) (ck_get kk_Mo_takes0 19 rfl) ?_
        first | refine wp_iaddN (ck_get kk_Mo_takes0 20 rfl) ?_ | refine wp_iadd (ck_get kk_Mo_takes0 20 rfl) ?_
        refine wp_putI (ck_get kk_Mo_takes0 21 rfl) fl_Mo_208 (by decide +kernel) (by assumption) (okI_int _) ?_
        rw [rdM_w22]
        refine wp_iload_n rfl (ck_get kk_Mo_takes0 22 rfl) ?_
        refine wp_ireturn (ck_get kk_Mo_takes0 23 rfl) rfl rfl ⟨_, rfl, ?_⟩
        exact ⟨rfl, rfl⟩
theorem m_takesN {c : Nat} (hT : TkOK M o N tc tv pl od) (hi : i ≤ N) (h : ¬ tc i = c) (hc : c < 1000) : Ci g Y_Mo_takes0 1 [.ref o, .int (nI c)] (rdM M o i lf (-1)) (fun x M2 => x = nI 0 ∧ M2 = rdM M o i lf (-1)) := by
  obtain ⟨hM, hN, hN2, hc4, hpl, hTk, h13, h11, h12⟩ := hT
  have hM0 := hM
  have := hc4 i
  have to0 := hM.1
  have rfcode := MoAt.r hM 11 rfl
  have tfcode := MoAt.t hM 11 rfl
  refine cw_entry 1 pf_Mo_takes0 rfl ?_
  refine wp_aload_n rfl (ck_get kk_Mo_takes0 0 rfl) ?_
  refine wp_cV0i (ck_get kk_Mo_takes0 1 rfl) ml_Mo_204 (by omega) (Nat.le_of_ble_eq_true rfl) (by assumption) (Ci.to (m_fineY hM0) ?_)
  rintro _ M1 ⟨rfl, eqm1⟩
  obtain rfl := eqm1.symm
  first | refine wp_if_eqN (t := 24) (ck_get kk_Mo_takes0 2 rfl) (by decide) (by omega) (fun hc4 => ?_) (fun hc4 => ?_) | refine wp_if_eq (t := 24) (ck_get kk_Mo_takes0 2 rfl) (by decide) (fun hc4 => ?_) (fun hc4 => ?_)
  · omega
  · refine wp_aload_n rfl (ck_get kk_Mo_takes0 3 rfl) ?_
    refine wp_getR (ck_get kk_Mo_takes0 4 rfl) fl_Mo_64 (by assumption) (by assumption) ?_
    refine wp_aload_n rfl (ck_get kk_Mo_takes0 5 rfl) ?_
    refine wp_getIv (v := nI i) (ck_get kk_Mo_takes0 6 rfl) fl_Mo_208 (by assumption) (rdM_22) ?_
    refine wp_ialdv (v := nI (tc i)) (ck_get kk_Mo_takes0 7 rfl) (by assumption) (ixk_nI (k := i) (by omega) (by omega)) (by rw [rdM_a (by omega)]; exact (hTk i hi).1) ?_
    refine wp_iload_n rfl (ck_get kk_Mo_takes0 8 rfl) ?_
    first | refine wp_icmp_neN (t := 24) (ck_get kk_Mo_takes0 9 rfl) (by decide) (by omega) (by omega) (fun hc17 => ?_) (fun hc17 => ?_) | refine wp_icmp_ne (t := 24) (ck_get kk_Mo_takes0 9 rfl) (by decide) (fun hc17 => ?_) (fun hc17 => ?_)
    · refine wp_iconst (v := nI 0) (by decide) (ck_get kk_Mo_takes0 12 rfl) ?_
      refine wp_istore_n (ck_get kk_Mo_takes0 13 rfl) (by decide) rfl ?_
      refine wp_iload_n rfl (ck_get kk_Mo_takes0 14 rfl) ?_
      first | refine wp_if_eqN (t := 40) (ck_get kk_Mo_takes0 15 rfl) (by decide) (by omega) (fun hc27 => ?_) (fun hc27 => ?_) | refine wp_if_eq (t := 40) (ck_get kk_Mo_takes0 15 rfl) (by decide) (fun hc27 => ?_) (fun hc27 => ?_)
      · refine wp_iload_n rfl (ck_get kk_Mo_takes0 22 rfl) ?_
        refine wp_ireturn (ck_get kk_Mo_takes0 23 rfl) rfl rfl ⟨_, rfl, ?_⟩
        exact ⟨rfl, rfl⟩
      · omega
    · omega
theorem m_takesB {c : Nat} (hM : MoAt (mT M) (mR M) o) (hb : ¬ b = -1) : Ci g Y_Mo_takes0 1 [.ref o, .int (nI c)] (rdM M o i lf b) (fun x M2 => x = nI 0 ∧ M2 = rdM M o i lf b) := by
  have to0 := hM.1
  refine cw_entry 1 pf_Mo_takes0 rfl ?_
  refine wp_aload_n rfl (ck_get kk_Mo_takes0 0 rfl) ?_
  refine wp_cV0i (ck_get kk_Mo_takes0 1 rfl) ml_Mo_204 (by omega) (Nat.le_of_ble_eq_true rfl) (by assumption) (Ci.to (m_fineN hM hb) ?_)
  rintro _ M1 ⟨rfl, eqm1⟩
  obtain rfl := eqm1.symm
  first | refine wp_if_eqN (t := 24) (ck_get kk_Mo_takes0 2 rfl) (by decide) (by omega) (fun hc4 => ?_) (fun hc4 => ?_) | refine wp_if_eq (t := 24) (ck_get kk_Mo_takes0 2 rfl) (by decide) (fun hc4 => ?_) (fun hc4 => ?_)
  · refine wp_iconst (v := nI 0) (by decide) (ck_get kk_Mo_takes0 12 rfl) ?_
    refine wp_istore_n (ck_get kk_Mo_takes0 13 rfl) (by decide) rfl ?_
    refine wp_iload_n rfl (ck_get kk_Mo_takes0 14 rfl) ?_
    first | refine wp_if_eqN (t := 40) (ck_get kk_Mo_takes0 15 rfl) (by decide) (by omega) (fun hc27 => ?_) (fun hc27 => ?_) | refine wp_if_eq (t := 40) (ck_get kk_Mo_takes0 15 rfl) (by decide) (fun hc27 => ?_) (fun hc27 => ?_)
    · refine wp_iload_n rfl (ck_get kk_Mo_takes0 22 rfl) ?_
      refine wp_ireturn (ck_get kk_Mo_takes0 23 rfl) rfl rfl ⟨_, rfl, ?_⟩
      exact ⟨rfl, rfl⟩
    · omega
  · omega
theorem m_mustY {c : Nat} (hT : TkOK M o N tc tv pl od) (hi : i ≤ N) (h : tc i = c) : Cv g Y_Mo_must 2 [.ref o, .int (nI c)] (rdM M o i lf (-1)) (fun M2 => M2 = rdM M o (i + 1) lf (-1)) := by
  have to0 := hT.1.1
  refine cw_entry 0 pf_Mo_must rfl ?_
  refine wp_aload_n rfl (ck_get kk_Mo_must 0 rfl) ?_
  refine wp_iload_n rfl (ck_get kk_Mo_must 1 rfl) ?_
  refine wp_cV1i (ck_get kk_Mo_must 2 rfl) ml_Mo_211 (by omega) (Nat.le_of_ble_eq_true rfl) (by assumption) (Ci.to (m_takesY hT hi h) ?_)
  rintro _ M1 ⟨rfl, eqm1⟩
  obtain rfl := eqm1.symm
  first | refine wp_if_neN (t := 12) (ck_get kk_Mo_must 3 rfl) (by decide) (by omega) (fun hc5 => ?_) (fun hc5 => ?_) | refine wp_if_ne (t := 12) (ck_get kk_Mo_must 3 rfl) (by decide) (fun hc5 => ?_) (fun hc5 => ?_)
  · refine wp_return (ck_get kk_Mo_must 6 rfl) rfl ⟨rfl, ?_⟩
    rfl
  · omega
theorem m_mustN {c : Nat} (hT : TkOK M o N tc tv pl od) (hi : i ≤ N) (h : ¬ tc i = c) (hc : c < 1000) : Cv g Y_Mo_must 2 [.ref o, .int (nI c)] (rdM M o i lf (-1)) (fun M2 => M2 = rdM M o i lf (nI (pl i))) := by
  have to0 := hT.1.1
  refine cw_entry 0 pf_Mo_must rfl ?_
  refine wp_aload_n rfl (ck_get kk_Mo_must 0 rfl) ?_
  refine wp_iload_n rfl (ck_get kk_Mo_must 1 rfl) ?_
  refine wp_cV1i (ck_get kk_Mo_must 2 rfl) ml_Mo_211 (by omega) (Nat.le_of_ble_eq_true rfl) (by assumption) (Ci.to (m_takesN hT hi h hc) ?_)
  rintro _ M1 ⟨rfl, eqm1⟩
  obtain rfl := eqm1.symm
  first | refine wp_if_neN (t := 12) (ck_get kk_Mo_must 3 rfl) (by decide) (by omega) (fun hc5 => ?_) (fun hc5 => ?_) | refine wp_if_ne (t := 12) (ck_get kk_Mo_must 3 rfl) (by decide) (fun hc5 => ?_) (fun hc5 => ?_)
  · omega
  · refine wp_aload_n rfl (ck_get kk_Mo_must 4 rfl) ?_
    refine wp_cV0v (ck_get kk_Mo_must 5 rfl) ml_Mo_214 (by omega) (Nat.le_of_ble_eq_true rfl) (by assumption) (Cv.to (m_faultsY hT hi) ?_)
    rintro M₁ rfl
    refine wp_return (ck_get kk_Mo_must 6 rfl) rfl ⟨rfl, ?_⟩
    rfl
theorem m_mustB {c : Nat} (hM : MoAt (mT M) (mR M) o) (hb : ¬ b = -1) : Cv g Y_Mo_must 2 [.ref o, .int (nI c)] (rdM M o i lf b) (fun M2 => M2 = rdM M o i lf b) := by
  have to0 := hM.1
  refine cw_entry 0 pf_Mo_must rfl ?_
  refine wp_aload_n rfl (ck_get kk_Mo_must 0 rfl) ?_
  refine wp_iload_n rfl (ck_get kk_Mo_must 1 rfl) ?_
  refine wp_cV1i (ck_get kk_Mo_must 2 rfl) ml_Mo_211 (by omega) (Nat.le_of_ble_eq_true rfl) (by assumption) (Ci.to (m_takesB hM hb) ?_)
  rintro _ M1 ⟨rfl, eqm1⟩
  obtain rfl := eqm1.symm
  first | refine wp_if_neN (t := 12) (ck_get kk_Mo_must 3 rfl) (by decide) (by omega) (fun hc5 => ?_) (fun hc5 => ?_) | refine wp_if_ne (t := 12) (ck_get kk_Mo_must 3 rfl) (by decide) (fun hc5 => ?_) (fun hc5 => ?_)
  · omega
  · refine wp_aload_n rfl (ck_get kk_Mo_must 4 rfl) ?_
    refine wp_cV0v (ck_get kk_Mo_must 5 rfl) ml_Mo_214 (by omega) (Nat.le_of_ble_eq_true rfl) (by assumption) (Cv.to (m_faultsN hM hb) ?_)
    rintro M₁ rfl
    refine wp_return (ck_get kk_Mo_must 6 rfl) rfl ⟨rfl, ?_⟩
    rfl
theorem m_leafY (hT : TkOK M o N tc tv pl od) (hl : lf < 50) : Cv g Y_Mo_leaf 2 [.ref o] (rdM M o i lf (-1)) (fun M2 => M2 = rdM M o (i + 1) (lf + 1) (-1)) := by
  have to0 := hT.1.1
  refine cw_entry 0 pf_Mo_leaf rfl ?_
  refine wp_aload_n rfl (ck_get kk_Mo_leaf 0 rfl) ?_
  refine wp_getIv (v := nI lf) (ck_get kk_Mo_leaf 1 rfl) fl_Mo_217 (by assumption) (rdM_23) ?_
  refine wp_bipush (v := nI 50) (by decide) (ck_get kk_Mo_leaf 2 rfl) ?_
  first | refine wp_icmp_neN (t := 13) (ck_get kk_Mo_leaf 3 rfl) (by decide) (by omega) (by omega) (fun hc6 => ?_) (fun hc6 => ?_) | refine wp_icmp_ne (t := 13) (ck_get kk_Mo_leaf 3 rfl) (by decide) (fun hc6 => ?_) (fun hc6 => ?_)
  · refine wp_aload_n rfl (ck_get kk_Mo_leaf 6 rfl) ?_
    refine wp_dup rfl (ck_get kk_Mo_leaf 7 rfl) ?_
    refine wp_getIv (v := nI lf) (ck_get kk_Mo_leaf 8 rfl) fl_Mo_217 (by assumption) (rdM_23) ?_
    refine wp_iconst (v := nI 1) (by decide) (ck_get kk_Mo_leaf 9 rfl) ?_
    first | refine wp_iaddN (ck_get kk_Mo_leaf 10 rfl) ?_ | refine wp_iadd (ck_get kk_Mo_leaf 10 rfl) ?_
    refine wp_putI (ck_get kk_Mo_leaf 11 rfl) fl_Mo_217 (by decide +kernel) (by assumption) (okI_int _) ?_
    rw [rdM_w23]
    refine wp_aload_n rfl (ck_get kk_Mo_leaf 12 rfl) ?_
    refine wp_cV0i (ck_get kk_Mo_leaf 13 rfl) ml_Mo_204 (by omega) (Nat.le_of_ble_eq_true rfl) (by assumption) (Ci.to (m_fineY hT.1) ?_)
    rintro _ M1 ⟨rfl, eqm1⟩
    obtain rfl := eqm1.symm
    first | refine wp_if_eqN (t := 40) (ck_get kk_Mo_leaf 14 rfl) (by decide) (by omega) (fun hc27 => ?_) (fun hc27 => ?_) | refine wp_if_eq (t := 40) (ck_get kk_Mo_leaf 14 rfl) (by decide) (fun hc27 => ?_) (fun hc27 => ?_)
    · omega
    · refine wp_aload_n rfl (ck_get kk_Mo_leaf 15 rfl) ?_
      refine wp_dup rfl (ck_get kk_Mo_leaf 16 rfl) ?_
      refine wp_getIv (v := nI i) (ck_get kk_Mo_leaf 17 rfl) fl_Mo_208 (by assumption) (rdM_22) ?_
      refine wp_iconst (v := nI 1) (by decide) (ck_get kk_Mo_leaf 18 rfl) ?_
      first | refine wp_iaddN (ck_get kk_Mo_leaf 19 rfl) ?_ | refine wp_iadd (ck_get kk_Mo_leaf 19 rfl) ?_
      refine wp_putI (ck_get kk_Mo_leaf 20 rfl) fl_Mo_208 (by decide +kernel) (by assumption) (okI_int _) ?_
      rw [rdM_w22]
      refine wp_return (ck_get kk_Mo_leaf 21 rfl) rfl ⟨rfl, ?_⟩
      rfl
  · omega
theorem m_leafN (hT : TkOK M o N tc tv pl od) (hi : i ≤ N) : Cv g Y_Mo_leaf 2 [.ref o] (rdM M o i 50 (-1)) (fun M2 => M2 = rdM M o i 51 (nI (pl i))) := by
  have to0 := hT.1.1
  have hpl := hT.2.2.2.2.1 i
  refine cw_entry 0 pf_Mo_leaf rfl ?_
  refine wp_aload_n rfl (ck_get kk_Mo_leaf 0 rfl) ?_
  refine wp_getIv (v := nI 50) (ck_get kk_Mo_leaf 1 rfl) fl_Mo_217 (by assumption) (rdM_23) ?_
  refine wp_bipush (v := nI 50) (by decide) (ck_get kk_Mo_leaf 2 rfl) ?_
  first | refine wp_icmp_neN (t := 13) (ck_get kk_Mo_leaf 3 rfl) (by decide) (by omega) (by omega) (fun hc6 => ?_) (fun hc6 => ?_) | refine wp_icmp_ne (t := 13) (ck_get kk_Mo_leaf 3 rfl) (by decide) (fun hc6 => ?_) (fun hc6 => ?_)
  · omega
  · refine wp_aload_n rfl (ck_get kk_Mo_leaf 4 rfl) ?_
    refine wp_cV0v (ck_get kk_Mo_leaf 5 rfl) ml_Mo_214 (by omega) (Nat.le_of_ble_eq_true rfl) (by assumption) (Cv.to (m_faultsY hT hi) ?_)
    rintro M₁ rfl
    refine wp_aload_n rfl (ck_get kk_Mo_leaf 6 rfl) ?_
    refine wp_dup rfl (ck_get kk_Mo_leaf 7 rfl) ?_
    refine wp_getIv (v := nI 50) (ck_get kk_Mo_leaf 8 rfl) fl_Mo_217 (by assumption) (rdM_23) ?_
    refine wp_iconst (v := nI 1) (by decide) (ck_get kk_Mo_leaf 9 rfl) ?_
    first | refine wp_iaddN (ck_get kk_Mo_leaf 10 rfl) ?_ | refine wp_iadd (ck_get kk_Mo_leaf 10 rfl) ?_
    refine wp_putI (ck_get kk_Mo_leaf 11 rfl) fl_Mo_217 (by decide +kernel) (by assumption) (okI_int _) ?_
    rw [rdM_w23]
    refine wp_aload_n rfl (ck_get kk_Mo_leaf 12 rfl) ?_
    refine wp_cV0i (ck_get kk_Mo_leaf 13 rfl) ml_Mo_204 (by omega) (Nat.le_of_ble_eq_true rfl) (by assumption) (Ci.to (m_fineN hT.1 (nI_m1 hpl)) ?_)
    rintro _ M1 ⟨rfl, eqm1⟩
    obtain rfl := eqm1.symm
    first | refine wp_if_eqN (t := 40) (ck_get kk_Mo_leaf 14 rfl) (by decide) (by omega) (fun hc27 => ?_) (fun hc27 => ?_) | refine wp_if_eq (t := 40) (ck_get kk_Mo_leaf 14 rfl) (by decide) (fun hc27 => ?_) (fun hc27 => ?_)
    · refine wp_return (ck_get kk_Mo_leaf 21 rfl) rfl ⟨rfl, ?_⟩
      rfl
    · omega
theorem m_lies2 {v a c : Nat} (hv : v < 2147483648) (ha : a < 2147483648) (hc : c < 2147483648) : Ci g Y_Mo_lies 0 [.int (nI v), .int (nI a), .int (nI c)] M (fun x M2 => x = bI (decide (a ≤ v ∧ v ≤ c)) ∧ M2 = M) := by
  refine cw_entry 0 pf_Mo_lies rfl ?_
  refine wp_iload_n rfl (ck_get kk_Mo_lies 0 rfl) ?_
  refine wp_iload_n rfl (ck_get kk_Mo_lies 1 rfl) ?_
  first | refine wp_icmp_ltN (t := 14) (ck_get kk_Mo_lies 2 rfl) (by decide) (by omega) (by omega) (fun hc2 => ?_) (fun hc2 => ?_) | refine wp_icmp_lt (t := 14) (ck_get kk_Mo_lies 2 rfl) (by decide) (fun hc2 => ?_) (fun hc2 => ?_)
  · refine wp_iconst (v := nI 0) (by decide) (ck_get kk_Mo_lies 8 rfl) ?_
    refine wp_ireturn (ck_get kk_Mo_lies 9 rfl) rfl rfl ⟨_, rfl, ?_⟩
    exact ⟨by rw [decide_eq_false (by omega)]; rfl, rfl⟩
  · refine wp_iload_n rfl (ck_get kk_Mo_lies 3 rfl) ?_
    refine wp_iload_n rfl (ck_get kk_Mo_lies 4 rfl) ?_
    first | refine wp_icmp_gtN (t := 14) (ck_get kk_Mo_lies 5 rfl) (by decide) (by omega) (by omega) (fun hc7 => ?_) (fun hc7 => ?_) | refine wp_icmp_gt (t := 14) (ck_get kk_Mo_lies 5 rfl) (by decide) (fun hc7 => ?_) (fun hc7 => ?_)
    · refine wp_iconst (v := nI 0) (by decide) (ck_get kk_Mo_lies 8 rfl) ?_
      refine wp_ireturn (ck_get kk_Mo_lies 9 rfl) rfl rfl ⟨_, rfl, ?_⟩
      exact ⟨by rw [decide_eq_false (by omega)]; rfl, rfl⟩
    · refine wp_iconst (v := nI 1) (by decide) (ck_get kk_Mo_lies 6 rfl) ?_
      refine wp_goto (t := 15) (ck_get kk_Mo_lies 7 rfl) (by decide) ?_
      refine wp_ireturn (ck_get kk_Mo_lies 9 rfl) rfl rfl ⟨_, rfl, ?_⟩
      exact ⟨by rw [decide_eq_true (by omega)]; rfl, rfl⟩
theorem m_numY {a c : Nat} (hT : TkOK M o N tc tv pl od) (hi : i ≤ N) (h : tc i = 50) (h1 : a ≤ tv i) (h2 : tv i ≤ c) (hc : c < 1000) : Cv g Y_Mo_mustNumber 2 [.ref o, .int (nI a), .int (nI c)] (rdM M o i lf (-1)) (fun M2 => M2 = rdM M o (i + 1) lf (-1)) := by
  have hT0 := hT
  obtain ⟨hM, hN, hN2, hc4, hpl, hTk, h13, h11, h12⟩ := hT
  obtain ⟨q1, ⟨v, q2, q3, q4⟩, q5⟩ := hTk i hi
  have q6 := q4 h
  have hM0 := hM
  have to0 := hM.1
  have rfcode := MoAt.r hM 11 rfl
  have tfcode := MoAt.t hM 11 rfl
  have rfvalue := MoAt.r hM 12 rfl
  have tfvalue := MoAt.t hM 12 rfl
  refine cw_entry 0 pf_Mo_mustNumber rfl ?_
  refine wp_aload_n rfl (ck_get kk_Mo_mustNumber 0 rfl) ?_
  refine wp_cV0i (ck_get kk_Mo_mustNumber 1 rfl) ml_Mo_204 (by omega) (Nat.le_of_ble_eq_true rfl) (by assumption) (Ci.to (m_fineY hM0) ?_)
  rintro _ M1 ⟨rfl, eqm1⟩
  obtain rfl := eqm1.symm
  first | refine wp_if_eqN (t := 42) (ck_get kk_Mo_mustNumber 2 rfl) (by decide) (by omega) (fun hc4 => ?_) (fun hc4 => ?_) | refine wp_if_eq (t := 42) (ck_get kk_Mo_mustNumber 2 rfl) (by decide) (fun hc4 => ?_) (fun hc4 => ?_)
  · omega
  · refine wp_aload_n rfl (ck_get kk_Mo_mustNumber 3 rfl) ?_
    refine wp_getR (ck_get kk_Mo_mustNumber 4 rfl) fl_Mo_64 (by assumption) (by assumption) ?_
    refine wp_aload_n rfl (ck_get kk_Mo_mustNumber 5 rfl) ?_
    refine wp_getIv (v := nI i) (ck_get kk_Mo_mustNumber 6 rfl) fl_Mo_208 (by assumption) (rdM_22) ?_
    refine wp_ialdv (v := nI 50) (ck_get kk_Mo_mustNumber 7 rfl) (by assumption) (ixk_nI (k := i) (by omega) (by omega)) (by rw [rdM_a (by omega), q1, h]) ?_
    refine wp_bipush (v := nI 50) (by decide) (ck_get kk_Mo_mustNumber 8 rfl) ?_
    first | refine wp_icmp_neN (t := 38) (ck_get kk_Mo_mustNumber 9 rfl) (by decide) (by omega) (by omega) (fun hc18 => ?_) (fun hc18 => ?_) | refine wp_icmp_ne (t := 38) (ck_get kk_Mo_mustNumber 9 rfl) (by decide) (fun hc18 => ?_) (fun hc18 => ?_)
    · omega
    · refine wp_aload_n rfl (ck_get kk_Mo_mustNumber 10 rfl) ?_
      refine wp_getR (ck_get kk_Mo_mustNumber 11 rfl) fl_Mo_67 (by assumption) (by assumption) ?_
      refine wp_aload_n rfl (ck_get kk_Mo_mustNumber 12 rfl) ?_
      refine wp_getIv (v := nI i) (ck_get kk_Mo_mustNumber 13 rfl) fl_Mo_208 (by assumption) (rdM_22) ?_
      refine wp_ialdv (v := nI v) (ck_get kk_Mo_mustNumber 14 rfl) (by assumption) (ixk_nI (k := i) (by omega) (by omega)) (by rw [rdM_a (by omega), q2]) ?_
      refine wp_iload_n rfl (ck_get kk_Mo_mustNumber 15 rfl) ?_
      refine wp_iload_n rfl (ck_get kk_Mo_mustNumber 16 rfl) ?_
      refine wp_cS3i (ck_get kk_Mo_mustNumber 17 rfl) ml_Mo_18 (by omega) (Nat.le_of_ble_eq_true rfl) (Ci.to (m_lies2 (by omega) (by omega) (by omega)) ?_)
      rintro _ M1 ⟨rfl, eqm1⟩
      obtain rfl := eqm1.symm
      rw [decide_eq_true (by omega)]
      first | refine wp_if_neN (t := 42) (ck_get kk_Mo_mustNumber 18 rfl) (by decide) (by omega) (fun hc35 => ?_) (fun hc35 => ?_) | refine wp_if_ne (t := 42) (ck_get kk_Mo_mustNumber 18 rfl) (by decide) (fun hc35 => ?_) (fun hc35 => ?_)
      · refine wp_aload_n rfl (ck_get kk_Mo_mustNumber 21 rfl) ?_
        refine wp_cV0i (ck_get kk_Mo_mustNumber 22 rfl) ml_Mo_204 (by omega) (Nat.le_of_ble_eq_true rfl) (by assumption) (Ci.to (m_fineY hM0) ?_)
        rintro _ M1 ⟨rfl, eqm1⟩
        obtain rfl := eqm1.symm
        first | refine wp_if_eqN (t := 59) (ck_get kk_Mo_mustNumber 23 rfl) (by decide) (by omega) (fun hc46 => ?_) (fun hc46 => ?_) | refine wp_if_eq (t := 59) (ck_get kk_Mo_mustNumber 23 rfl) (by decide) (fun hc46 => ?_) (fun hc46 => ?_)
        · omega
        · refine wp_aload_n rfl (ck_get kk_Mo_mustNumber 24 rfl) ?_
          refine wp_dup rfl (ck_get kk_Mo_mustNumber 25 rfl) ?_
          refine wp_getIv (v := nI i) (ck_get kk_Mo_mustNumber 26 rfl) fl_Mo_208 (by assumption) (rdM_22) ?_
          refine wp_iconst (v := nI 1) (by decide) (ck_get kk_Mo_mustNumber 27 rfl) ?_
          first | refine wp_iaddN (ck_get kk_Mo_mustNumber 28 rfl) ?_ | refine wp_iadd (ck_get kk_Mo_mustNumber 28 rfl) ?_
          refine wp_putI (ck_get kk_Mo_mustNumber 29 rfl) fl_Mo_208 (by decide +kernel) (by assumption) (okI_int _) ?_
          rw [rdM_w22]
          refine wp_return (ck_get kk_Mo_mustNumber 30 rfl) rfl ⟨rfl, ?_⟩
          rfl
      · exact absurd hc35 (by decide)
theorem m_numN {a c : Nat} (hT : TkOK M o N tc tv pl od) (hi : i ≤ N) (h : ¬ (tc i = 50 ∧ a ≤ tv i ∧ tv i ≤ c)) (hc : c < 1000) (ha : a < 1000) : Cv g Y_Mo_mustNumber 2 [.ref o, .int (nI a), .int (nI c)] (rdM M o i lf (-1)) (fun M2 => M2 = rdM M o i lf (nI (pl i))) := by
  have hT0 := hT
  obtain ⟨hM, hN, hN2, hc4, hpl, hTk, h13, h11, h12⟩ := hT
  obtain ⟨q1, ⟨v, q2, q3, q4⟩, q5⟩ := hTk i hi
  have hM0 := hM
  have := hc4 i
  have hpi := hpl i
  have to0 := hM.1
  have rfcode := MoAt.r hM 11 rfl
  have tfcode := MoAt.t hM 11 rfl
  have rfvalue := MoAt.r hM 12 rfl
  have tfvalue := MoAt.t hM 12 rfl
  refine cw_entry 0 pf_Mo_mustNumber rfl ?_
  by_cases h5 : tc i = 50
  · have q6 := q4 h5
    refine wp_aload_n rfl (ck_get kk_Mo_mustNumber 0 rfl) ?_
    refine wp_cV0i (ck_get kk_Mo_mustNumber 1 rfl) ml_Mo_204 (by omega) (Nat.le_of_ble_eq_true rfl) (by assumption) (Ci.to (m_fineY hM0) ?_)
    rintro _ M1 ⟨rfl, eqm1⟩
    obtain rfl := eqm1.symm
    first | refine wp_if_eqN (t := 42) (ck_get kk_Mo_mustNumber 2 rfl) (by decide) (by omega) (fun hc4 => ?_) (fun hc4 => ?_) | refine wp_if_eq (t := 42) (ck_get kk_Mo_mustNumber 2 rfl) (by decide) (fun hc4 => ?_) (fun hc4 => ?_)
    · omega
    · refine wp_aload_n rfl (ck_get kk_Mo_mustNumber 3 rfl) ?_
      refine wp_getR (ck_get kk_Mo_mustNumber 4 rfl) fl_Mo_64 (by assumption) (by assumption) ?_
      refine wp_aload_n rfl (ck_get kk_Mo_mustNumber 5 rfl) ?_
      refine wp_getIv (v := nI i) (ck_get kk_Mo_mustNumber 6 rfl) fl_Mo_208 (by assumption) (rdM_22) ?_
      refine wp_ialdv (v := nI 50) (ck_get kk_Mo_mustNumber 7 rfl) (by assumption) (ixk_nI (k := i) (by omega) (by omega)) (by rw [rdM_a (by omega), q1, h5]) ?_
      refine wp_bipush (v := nI 50) (by decide) (ck_get kk_Mo_mustNumber 8 rfl) ?_
      first | refine wp_icmp_neN (t := 38) (ck_get kk_Mo_mustNumber 9 rfl) (by decide) (by omega) (by omega) (fun hc18 => ?_) (fun hc18 => ?_) | refine wp_icmp_ne (t := 38) (ck_get kk_Mo_mustNumber 9 rfl) (by decide) (fun hc18 => ?_) (fun hc18 => ?_)
      · omega
      · refine wp_aload_n rfl (ck_get kk_Mo_mustNumber 10 rfl) ?_
        refine wp_getR (ck_get kk_Mo_mustNumber 11 rfl) fl_Mo_67 (by assumption) (by assumption) ?_
        refine wp_aload_n rfl (ck_get kk_Mo_mustNumber 12 rfl) ?_
        refine wp_getIv (v := nI i) (ck_get kk_Mo_mustNumber 13 rfl) fl_Mo_208 (by assumption) (rdM_22) ?_
        refine wp_ialdv (v := nI v) (ck_get kk_Mo_mustNumber 14 rfl) (by assumption) (ixk_nI (k := i) (by omega) (by omega)) (by rw [rdM_a (by omega), q2]) ?_
        refine wp_iload_n rfl (ck_get kk_Mo_mustNumber 15 rfl) ?_
        refine wp_iload_n rfl (ck_get kk_Mo_mustNumber 16 rfl) ?_
        refine wp_cS3i (ck_get kk_Mo_mustNumber 17 rfl) ml_Mo_18 (by omega) (Nat.le_of_ble_eq_true rfl) (Ci.to (m_lies2 (by omega) (by omega) (by omega)) ?_)
        rintro _ M1 ⟨rfl, eqm1⟩
        obtain rfl := eqm1.symm
        rw [decide_eq_false (by omega)]
        first | refine wp_if_neN (t := 42) (ck_get kk_Mo_mustNumber 18 rfl) (by decide) (by omega) (fun hc35 => ?_) (fun hc35 => ?_) | refine wp_if_ne (t := 42) (ck_get kk_Mo_mustNumber 18 rfl) (by decide) (fun hc35 => ?_) (fun hc35 => ?_)
        · exact absurd rfl hc35
        · refine wp_aload_n rfl (ck_get kk_Mo_mustNumber 19 rfl) ?_
          refine wp_cV0v (ck_get kk_Mo_mustNumber 20 rfl) ml_Mo_214 (by omega) (Nat.le_of_ble_eq_true rfl) (by assumption) (Cv.to (m_faultsY hT0 hi) ?_)
          rintro M₁ rfl
          refine wp_aload_n rfl (ck_get kk_Mo_mustNumber 21 rfl) ?_
          refine wp_cV0i (ck_get kk_Mo_mustNumber 22 rfl) ml_Mo_204 (by omega) (Nat.le_of_ble_eq_true rfl) (by assumption) (Ci.to (m_fineN hM0 (nI_m1 hpi)) ?_)
          rintro _ M1 ⟨rfl, eqm1⟩
          obtain rfl := eqm1.symm
          first | refine wp_if_eqN (t := 59) (ck_get kk_Mo_mustNumber 23 rfl) (by decide) (by omega) (fun hc46 => ?_) (fun hc46 => ?_) | refine wp_if_eq (t := 59) (ck_get kk_Mo_mustNumber 23 rfl) (by decide) (fun hc46 => ?_) (fun hc46 => ?_)
          · refine wp_return (ck_get kk_Mo_mustNumber 30 rfl) rfl ⟨rfl, ?_⟩
            rfl
          · omega
  · skip
    refine wp_aload_n rfl (ck_get kk_Mo_mustNumber 0 rfl) ?_
    refine wp_cV0i (ck_get kk_Mo_mustNumber 1 rfl) ml_Mo_204 (by omega) (Nat.le_of_ble_eq_true rfl) (by assumption) (Ci.to (m_fineY hM0) ?_)
    rintro _ M1 ⟨rfl, eqm1⟩
    obtain rfl := eqm1.symm
    first | refine wp_if_eqN (t := 42) (ck_get kk_Mo_mustNumber 2 rfl) (by decide) (by omega) (fun hc4 => ?_) (fun hc4 => ?_) | refine wp_if_eq (t := 42) (ck_get kk_Mo_mustNumber 2 rfl) (by decide) (fun hc4 => ?_) (fun hc4 => ?_)
    · omega
    · refine wp_aload_n rfl (ck_get kk_Mo_mustNumber 3 rfl) ?_
      refine wp_getR (ck_get kk_Mo_mustNumber 4 rfl) fl_Mo_64 (by assumption) (by assumption) ?_
      refine wp_aload_n rfl (ck_get kk_Mo_mustNumber 5 rfl) ?_
      refine wp_getIv (v := nI i) (ck_get kk_Mo_mustNumber 6 rfl) fl_Mo_208 (by assumption) (rdM_22) ?_
      refine wp_ialdv (v := nI (tc i)) (ck_get kk_Mo_mustNumber 7 rfl) (by assumption) (ixk_nI (k := i) (by omega) (by omega)) (by rw [rdM_a (by omega), q1]) ?_
      refine wp_bipush (v := nI 50) (by decide) (ck_get kk_Mo_mustNumber 8 rfl) ?_
      first | refine wp_icmp_neN (t := 38) (ck_get kk_Mo_mustNumber 9 rfl) (by decide) (by omega) (by omega) (fun hc18 => ?_) (fun hc18 => ?_) | refine wp_icmp_ne (t := 38) (ck_get kk_Mo_mustNumber 9 rfl) (by decide) (fun hc18 => ?_) (fun hc18 => ?_)
      · refine wp_aload_n rfl (ck_get kk_Mo_mustNumber 19 rfl) ?_
        refine wp_cV0v (ck_get kk_Mo_mustNumber 20 rfl) ml_Mo_214 (by omega) (Nat.le_of_ble_eq_true rfl) (by assumption) (Cv.to (m_faultsY hT0 hi) ?_)
        rintro M₁ rfl
        refine wp_aload_n rfl (ck_get kk_Mo_mustNumber 21 rfl) ?_
        refine wp_cV0i (ck_get kk_Mo_mustNumber 22 rfl) ml_Mo_204 (by omega) (Nat.le_of_ble_eq_true rfl) (by assumption) (Ci.to (m_fineN hM0 (nI_m1 hpi)) ?_)
        rintro _ M1 ⟨rfl, eqm1⟩
        obtain rfl := eqm1.symm
        first | refine wp_if_eqN (t := 59) (ck_get kk_Mo_mustNumber 23 rfl) (by decide) (by omega) (fun hc46 => ?_) (fun hc46 => ?_) | refine wp_if_eq (t := 59) (ck_get kk_Mo_mustNumber 23 rfl) (by decide) (fun hc46 => ?_) (fun hc46 => ?_)
        · refine wp_return (ck_get kk_Mo_mustNumber 30 rfl) rfl ⟨rfl, ?_⟩
          rfl
        · omega
      · omega
theorem m_numB {a c : Nat} (hM : MoAt (mT M) (mR M) o) (hb : ¬ b = -1) : Cv g Y_Mo_mustNumber 2 [.ref o, .int (nI a), .int (nI c)] (rdM M o i lf b) (fun M2 => M2 = rdM M o i lf b) := by
  have to0 := hM.1
  refine cw_entry 0 pf_Mo_mustNumber rfl ?_
  refine wp_aload_n rfl (ck_get kk_Mo_mustNumber 0 rfl) ?_
  refine wp_cV0i (ck_get kk_Mo_mustNumber 1 rfl) ml_Mo_204 (by omega) (Nat.le_of_ble_eq_true rfl) (by assumption) (Ci.to (m_fineN hM hb) ?_)
  rintro _ M1 ⟨rfl, eqm1⟩
  obtain rfl := eqm1.symm
  first | refine wp_if_eqN (t := 42) (ck_get kk_Mo_mustNumber 2 rfl) (by decide) (by omega) (fun hc4 => ?_) (fun hc4 => ?_) | refine wp_if_eq (t := 42) (ck_get kk_Mo_mustNumber 2 rfl) (by decide) (fun hc4 => ?_) (fun hc4 => ?_)
  · refine wp_aload_n rfl (ck_get kk_Mo_mustNumber 21 rfl) ?_
    refine wp_cV0i (ck_get kk_Mo_mustNumber 22 rfl) ml_Mo_204 (by omega) (Nat.le_of_ble_eq_true rfl) (by assumption) (Ci.to (m_fineN hM hb) ?_)
    rintro _ M1 ⟨rfl, eqm1⟩
    obtain rfl := eqm1.symm
    first | refine wp_if_eqN (t := 59) (ck_get kk_Mo_mustNumber 23 rfl) (by decide) (by omega) (fun hc46 => ?_) (fun hc46 => ?_) | refine wp_if_eq (t := 59) (ck_get kk_Mo_mustNumber 23 rfl) (by decide) (fun hc46 => ?_) (fun hc46 => ?_)
    · refine wp_return (ck_get kk_Mo_mustNumber 30 rfl) rfl ⟨rfl, ?_⟩
      rfl
    · omega
  · omega
/-- behind a reading method: it could, or it could not (where) -/
def rdQ (M : Mem) (o : Nat) (pl : Nat → Nat) (r : PRes) (M2 : Mem) : Prop := (∃ j lf sg, r = (true, j, lf, sg) ∧ M2 = rdM M o j lf (-1)) ∨ (∃ j lf sg i2 lf2, r = (false, j, lf, sg) ∧ M2 = rdM M o i2 lf2 (nI (pl j)))
theorem rdQ.yes {j lf : Nat} {sg : List Int32} : rdQ M o pl (true, j, lf, sg) (rdM M o j lf (-1)) := Or.inl ⟨j, lf, sg, rfl, rfl⟩
theorem rdQ.no {j lf i2 lf2 : Nat} {sg : List Int32} : rdQ M o pl (false, j, lf, sg) (rdM M o i2 lf2 (nI (pl j))) := Or.inr ⟨j, lf, sg, i2, lf2, rfl, rfl⟩
theorem rdQ.pb {r : PRes} {F : List Int32 → List Int32} {M2 : Mem} (h : rdQ M o pl r M2) : rdQ M o pl (pbd r (fun j l sg => (true, j, l, F sg))) M2 := by
  rcases h with ⟨j, lf, sg, rfl, rfl⟩ | ⟨j, lf, sg, i2, lf2, rfl, rfl⟩
  · exact rdQ.yes
  · exact rdQ.no
def MN (g : Gl) (M : Mem) (o N : Nat) (tc tv pl : Nat → Nat) (od : Bool) (Y : Meth) (n0 nt rk f : Nat) : Prop := ∀ (d i lf cl : Nat), d ≤ 8 → i ≤ N → lf ≤ 50 → 12 * (N - i) + rk ≤ f → Cv g Y (20 * (9 - d) + n0) [.ref o, .int (nI d)] (rdM M o i lf (-1)) (fun M2 => rdQ M o pl (psr tc tv od f nt d i lf cl) M2)
def ML (g : Gl) (M : Mem) (o N : Nat) (tc tv pl : Nat → Nat) (od : Bool) (Y : Meth) (n0 nt f : Nat) : Prop := ∀ (d i lf cl : Nat), d ≤ 8 → i ≤ N → lf ≤ 50 → 12 * (N - i) + 1 ≤ f → Wp g Y (20 * (9 - d) + n0) 5 [some (.ref o), some (.int (nI d))] [] (rdM M o i lf (-1)) (fun r M2 => r = none ∧ rdQ M o pl (psr tc tv od f nt d i lf cl) M2)
theorem mb_Term5 {d : Nat} {n : Nat} (hM : MoAt (mT M) (mR M) o) (hb : ¬ b = -1) (hn : 3 ≤ n) : Wp g Y_Mo_readTerm n 5 [some (.ref o), some (.int (nI d))] [] (rdM M o i lf b) (fun r M2 => r = none ∧ M2 = rdM M o i lf b) := by
  have to0 := hM.1
  refine wp_aload_n rfl (ck_get kk_Mo_readTerm 3 rfl) ?_
  refine wp_bipush (v := nI 42) (by decide) (ck_get kk_Mo_readTerm 4 rfl) ?_
  refine wp_cS1i (ck_get kk_Mo_readTerm 5 rfl) ml_Mo_253 (by omega) (Nat.le_of_ble_eq_true rfl) (Ci.to (m_signOf) ?_)
  rintro _ M1 ⟨rfl, eqm1⟩
  obtain rfl := eqm1.symm
  refine wp_cV1i (ck_get kk_Mo_readTerm 6 rfl) ml_Mo_211 (by omega) (Nat.le_of_ble_eq_true rfl) (by assumption) (Ci.to (m_takesB hM hb) ?_)
  rintro _ M1 ⟨rfl, eqm1⟩
  obtain rfl := eqm1.symm
  first | refine wp_if_neN (t := 41) (ck_get kk_Mo_readTerm 7 rfl) (by decide) (by omega) (fun hc14 => ?_) (fun hc14 => ?_) | refine wp_if_ne (t := 41) (ck_get kk_Mo_readTerm 7 rfl) (by decide) (fun hc14 => ?_) (fun hc14 => ?_)
  · omega
  · refine wp_aload_n rfl (ck_get kk_Mo_readTerm 8 rfl) ?_
    refine wp_bipush (v := nI 47) (by decide) (ck_get kk_Mo_readTerm 9 rfl) ?_
    refine wp_cS1i (ck_get kk_Mo_readTerm 10 rfl) ml_Mo_253 (by omega) (Nat.le_of_ble_eq_true rfl) (Ci.to (m_signOf) ?_)
    rintro _ M1 ⟨rfl, eqm1⟩
    obtain rfl := eqm1.symm
    refine wp_cV1i (ck_get kk_Mo_readTerm 11 rfl) ml_Mo_211 (by omega) (Nat.le_of_ble_eq_true rfl) (by assumption) (Ci.to (m_takesB hM hb) ?_)
    rintro _ M1 ⟨rfl, eqm1⟩
    obtain rfl := eqm1.symm
    first | refine wp_if_neN (t := 41) (ck_get kk_Mo_readTerm 12 rfl) (by decide) (by omega) (fun hc26 => ?_) (fun hc26 => ?_) | refine wp_if_ne (t := 41) (ck_get kk_Mo_readTerm 12 rfl) (by decide) (fun hc26 => ?_) (fun hc26 => ?_)
    · omega
    · refine wp_aload_n rfl (ck_get kk_Mo_readTerm 13 rfl) ?_
      refine wp_bipush (v := nI 37) (by decide) (ck_get kk_Mo_readTerm 14 rfl) ?_
      refine wp_cS1i (ck_get kk_Mo_readTerm 15 rfl) ml_Mo_253 (by omega) (Nat.le_of_ble_eq_true rfl) (Ci.to (m_signOf) ?_)
      rintro _ M1 ⟨rfl, eqm1⟩
      obtain rfl := eqm1.symm
      refine wp_cV1i (ck_get kk_Mo_readTerm 16 rfl) ml_Mo_211 (by omega) (Nat.le_of_ble_eq_true rfl) (by assumption) (Ci.to (m_takesB hM hb) ?_)
      rintro _ M1 ⟨rfl, eqm1⟩
      obtain rfl := eqm1.symm
      first | refine wp_if_eqN (t := 49) (ck_get kk_Mo_readTerm 17 rfl) (by decide) (by omega) (fun hc38 => ?_) (fun hc38 => ?_) | refine wp_if_eq (t := 49) (ck_get kk_Mo_readTerm 17 rfl) (by decide) (fun hc38 => ?_) (fun hc38 => ?_)
      · refine wp_return (ck_get kk_Mo_readTerm 22 rfl) rfl ⟨rfl, ?_⟩
        rfl
      · omega
theorem mr_TermR (hT : TkOK M o N tc tv pl od) (h1 : MN g M o N tc tv pl od Y_Mo_readPart 7 0 1 f) (h2 : ML g M o N tc tv pl od Y_Mo_readTerm 8 1 f) : ML g M o N tc tv pl od Y_Mo_readTerm 8 1 (f + 1) := by
  intro d i lf cl hd hi hlf hf
  have to0 := hT.1.1
  rw [psr_1]
  by_cases hs0 : tc i = 100 + 42
  · have hiN := hT.2.2.1 i (by omega)
    rw [if_pos (by omega)]
    have go : ∀ M₁, rdQ M o pl (psr tc tv od f 0 d (i + 1) lf cl) M₁ → Wp g Y_Mo_readTerm (20 * (9 - d) + 8) 5 [some (.ref o), some (.int (nI d))] [] M₁ (fun r M2 => r = none ∧ rdQ M o pl (pbd (psr tc tv od f 0 d (i + 1) lf cl) (fun j lf2 sg => pbd (psr tc tv od f 1 d j lf2 (cl + (sg ++ [nI (tc i - 100), nI 0]).length)) (fun j2 lf3 sg2 => (true, j2, lf3, (sg ++ [nI (tc i - 100), nI 0]) ++ sg2)))) M2) := by
      rintro M₁ (⟨j, lf2, sg, hr, rfl⟩ | ⟨j, lf2, sg, i2, lf3, hr, rfl⟩)
      · obtain ⟨g1, g2, g3, g4, g5⟩ := psr_ok (N := N) hT.2.2.1 f 0 d (i + 1) lf cl j lf2 sg (by omega) hr (by omega) hlf
        rw [show ntk 0 = 1 from rfl] at g1
        rw [hr, pbd_y]
        refine Wp.mono (h2 d j lf2 (cl + (sg ++ [nI (tc i - 100), nI 0]).length) hd g2 g3 (by omega)) ?_
        rintro r₂ M₂ ⟨hr₂, hq₂⟩
        exact ⟨hr₂, hq₂.pb⟩
      · rw [hr, pbd_n]
        refine Wp.mono (mb_Term5 hT.1 (nI_m1 (hT.2.2.2.2.1 j)) (by omega)) ?_
        rintro r₂ M₂ ⟨hr₂, rfl⟩
        exact ⟨hr₂, rdQ.no⟩
    refine wp_aload_n rfl (ck_get kk_Mo_readTerm 3 rfl) ?_
    refine wp_bipush (v := nI 42) (by decide) (ck_get kk_Mo_readTerm 4 rfl) ?_
    refine wp_cS1i (ck_get kk_Mo_readTerm 5 rfl) ml_Mo_253 (by omega) (Nat.le_of_ble_eq_true rfl) (Ci.to (m_signOf) ?_)
    rintro _ M1 ⟨rfl, eqm1⟩
    obtain rfl := eqm1.symm
    refine wp_cV1i (ck_get kk_Mo_readTerm 6 rfl) ml_Mo_211 (by omega) (Nat.le_of_ble_eq_true rfl) (by assumption) (Ci.to (m_takesY hT hi hs0) ?_)
    rintro _ M1 ⟨rfl, eqm1⟩
    obtain rfl := eqm1.symm
    first | refine wp_if_neN (t := 41) (ck_get kk_Mo_readTerm 7 rfl) (by decide) (by omega) (fun hc14 => ?_) (fun hc14 => ?_) | refine wp_if_ne (t := 41) (ck_get kk_Mo_readTerm 7 rfl) (by decide) (fun hc14 => ?_) (fun hc14 => ?_)
    · refine wp_aload_n rfl (ck_get kk_Mo_readTerm 18 rfl) ?_
      refine wp_iload_n rfl (ck_get kk_Mo_readTerm 19 rfl) ?_
      refine wp_cV1v (ck_get kk_Mo_readTerm 20 rfl) ml_Mo_260 (by omega) (Nat.le_of_ble_eq_true rfl) (by assumption) (Cv.to (h1 d (i + 1) lf cl hd (by omega) hlf (by omega)) ?_)
      rintro M₁ hq₁
      refine wp_goto (t := 5) (ck_get kk_Mo_readTerm 21 rfl) (by decide) ?_
      exact go _ hq₁
    · omega
  by_cases hs1 : tc i = 100 + 47
  · have hiN := hT.2.2.1 i (by omega)
    rw [if_pos (by omega)]
    have go : ∀ M₁, rdQ M o pl (psr tc tv od f 0 d (i + 1) lf cl) M₁ → Wp g Y_Mo_readTerm (20 * (9 - d) + 8) 5 [some (.ref o), some (.int (nI d))] [] M₁ (fun r M2 => r = none ∧ rdQ M o pl (pbd (psr tc tv od f 0 d (i + 1) lf cl) (fun j lf2 sg => pbd (psr tc tv od f 1 d j lf2 (cl + (sg ++ [nI (tc i - 100), nI 0]).length)) (fun j2 lf3 sg2 => (true, j2, lf3, (sg ++ [nI (tc i - 100), nI 0]) ++ sg2)))) M2) := by
      rintro M₁ (⟨j, lf2, sg, hr, rfl⟩ | ⟨j, lf2, sg, i2, lf3, hr, rfl⟩)
      · obtain ⟨g1, g2, g3, g4, g5⟩ := psr_ok (N := N) hT.2.2.1 f 0 d (i + 1) lf cl j lf2 sg (by omega) hr (by omega) hlf
        rw [show ntk 0 = 1 from rfl] at g1
        rw [hr, pbd_y]
        refine Wp.mono (h2 d j lf2 (cl + (sg ++ [nI (tc i - 100), nI 0]).length) hd g2 g3 (by omega)) ?_
        rintro r₂ M₂ ⟨hr₂, hq₂⟩
        exact ⟨hr₂, hq₂.pb⟩
      · rw [hr, pbd_n]
        refine Wp.mono (mb_Term5 hT.1 (nI_m1 (hT.2.2.2.2.1 j)) (by omega)) ?_
        rintro r₂ M₂ ⟨hr₂, rfl⟩
        exact ⟨hr₂, rdQ.no⟩
    refine wp_aload_n rfl (ck_get kk_Mo_readTerm 3 rfl) ?_
    refine wp_bipush (v := nI 42) (by decide) (ck_get kk_Mo_readTerm 4 rfl) ?_
    refine wp_cS1i (ck_get kk_Mo_readTerm 5 rfl) ml_Mo_253 (by omega) (Nat.le_of_ble_eq_true rfl) (Ci.to (m_signOf) ?_)
    rintro _ M1 ⟨rfl, eqm1⟩
    obtain rfl := eqm1.symm
    refine wp_cV1i (ck_get kk_Mo_readTerm 6 rfl) ml_Mo_211 (by omega) (Nat.le_of_ble_eq_true rfl) (by assumption) (Ci.to (m_takesN hT hi hs0 (by omega)) ?_)
    rintro _ M1 ⟨rfl, eqm1⟩
    obtain rfl := eqm1.symm
    first | refine wp_if_neN (t := 41) (ck_get kk_Mo_readTerm 7 rfl) (by decide) (by omega) (fun hc14 => ?_) (fun hc14 => ?_) | refine wp_if_ne (t := 41) (ck_get kk_Mo_readTerm 7 rfl) (by decide) (fun hc14 => ?_) (fun hc14 => ?_)
    · omega
    · refine wp_aload_n rfl (ck_get kk_Mo_readTerm 8 rfl) ?_
      refine wp_bipush (v := nI 47) (by decide) (ck_get kk_Mo_readTerm 9 rfl) ?_
      refine wp_cS1i (ck_get kk_Mo_readTerm 10 rfl) ml_Mo_253 (by omega) (Nat.le_of_ble_eq_true rfl) (Ci.to (m_signOf) ?_)
      rintro _ M1 ⟨rfl, eqm1⟩
      obtain rfl := eqm1.symm
      refine wp_cV1i (ck_get kk_Mo_readTerm 11 rfl) ml_Mo_211 (by omega) (Nat.le_of_ble_eq_true rfl) (by assumption) (Ci.to (m_takesY hT hi hs1) ?_)
      rintro _ M1 ⟨rfl, eqm1⟩
      obtain rfl := eqm1.symm
      first | refine wp_if_neN (t := 41) (ck_get kk_Mo_readTerm 12 rfl) (by decide) (by omega) (fun hc26 => ?_) (fun hc26 => ?_) | refine wp_if_ne (t := 41) (ck_get kk_Mo_readTerm 12 rfl) (by decide) (fun hc26 => ?_) (fun hc26 => ?_)
      · refine wp_aload_n rfl (ck_get kk_Mo_readTerm 18 rfl) ?_
        refine wp_iload_n rfl (ck_get kk_Mo_readTerm 19 rfl) ?_
        refine wp_cV1v (ck_get kk_Mo_readTerm 20 rfl) ml_Mo_260 (by omega) (Nat.le_of_ble_eq_true rfl) (by assumption) (Cv.to (h1 d (i + 1) lf cl hd (by omega) hlf (by omega)) ?_)
        rintro M₁ hq₁
        refine wp_goto (t := 5) (ck_get kk_Mo_readTerm 21 rfl) (by decide) ?_
        exact go _ hq₁
      · omega
  by_cases hs2 : tc i = 100 + 37
  · have hiN := hT.2.2.1 i (by omega)
    rw [if_pos (by omega)]
    have go : ∀ M₁, rdQ M o pl (psr tc tv od f 0 d (i + 1) lf cl) M₁ → Wp g Y_Mo_readTerm (20 * (9 - d) + 8) 5 [some (.ref o), some (.int (nI d))] [] M₁ (fun r M2 => r = none ∧ rdQ M o pl (pbd (psr tc tv od f 0 d (i + 1) lf cl) (fun j lf2 sg => pbd (psr tc tv od f 1 d j lf2 (cl + (sg ++ [nI (tc i - 100), nI 0]).length)) (fun j2 lf3 sg2 => (true, j2, lf3, (sg ++ [nI (tc i - 100), nI 0]) ++ sg2)))) M2) := by
      rintro M₁ (⟨j, lf2, sg, hr, rfl⟩ | ⟨j, lf2, sg, i2, lf3, hr, rfl⟩)
      · obtain ⟨g1, g2, g3, g4, g5⟩ := psr_ok (N := N) hT.2.2.1 f 0 d (i + 1) lf cl j lf2 sg (by omega) hr (by omega) hlf
        rw [show ntk 0 = 1 from rfl] at g1
        rw [hr, pbd_y]
        refine Wp.mono (h2 d j lf2 (cl + (sg ++ [nI (tc i - 100), nI 0]).length) hd g2 g3 (by omega)) ?_
        rintro r₂ M₂ ⟨hr₂, hq₂⟩
        exact ⟨hr₂, hq₂.pb⟩
      · rw [hr, pbd_n]
        refine Wp.mono (mb_Term5 hT.1 (nI_m1 (hT.2.2.2.2.1 j)) (by omega)) ?_
        rintro r₂ M₂ ⟨hr₂, rfl⟩
        exact ⟨hr₂, rdQ.no⟩
    refine wp_aload_n rfl (ck_get kk_Mo_readTerm 3 rfl) ?_
    refine wp_bipush (v := nI 42) (by decide) (ck_get kk_Mo_readTerm 4 rfl) ?_
    refine wp_cS1i (ck_get kk_Mo_readTerm 5 rfl) ml_Mo_253 (by omega) (Nat.le_of_ble_eq_true rfl) (Ci.to (m_signOf) ?_)
    rintro _ M1 ⟨rfl, eqm1⟩
    obtain rfl := eqm1.symm
    refine wp_cV1i (ck_get kk_Mo_readTerm 6 rfl) ml_Mo_211 (by omega) (Nat.le_of_ble_eq_true rfl) (by assumption) (Ci.to (m_takesN hT hi hs0 (by omega)) ?_)
    rintro _ M1 ⟨rfl, eqm1⟩
    obtain rfl := eqm1.symm
    first | refine wp_if_neN (t := 41) (ck_get kk_Mo_readTerm 7 rfl) (by decide) (by omega) (fun hc14 => ?_) (fun hc14 => ?_) | refine wp_if_ne (t := 41) (ck_get kk_Mo_readTerm 7 rfl) (by decide) (fun hc14 => ?_) (fun hc14 => ?_)
    · omega
    · refine wp_aload_n rfl (ck_get kk_Mo_readTerm 8 rfl) ?_
      refine wp_bipush (v := nI 47) (by decide) (ck_get kk_Mo_readTerm 9 rfl) ?_
      refine wp_cS1i (ck_get kk_Mo_readTerm 10 rfl) ml_Mo_253 (by omega) (Nat.le_of_ble_eq_true rfl) (Ci.to (m_signOf) ?_)
      rintro _ M1 ⟨rfl, eqm1⟩
      obtain rfl := eqm1.symm
      refine wp_cV1i (ck_get kk_Mo_readTerm 11 rfl) ml_Mo_211 (by omega) (Nat.le_of_ble_eq_true rfl) (by assumption) (Ci.to (m_takesN hT hi hs1 (by omega)) ?_)
      rintro _ M1 ⟨rfl, eqm1⟩
      obtain rfl := eqm1.symm
      first | refine wp_if_neN (t := 41) (ck_get kk_Mo_readTerm 12 rfl) (by decide) (by omega) (fun hc26 => ?_) (fun hc26 => ?_) | refine wp_if_ne (t := 41) (ck_get kk_Mo_readTerm 12 rfl) (by decide) (fun hc26 => ?_) (fun hc26 => ?_)
      · omega
      · refine wp_aload_n rfl (ck_get kk_Mo_readTerm 13 rfl) ?_
        refine wp_bipush (v := nI 37) (by decide) (ck_get kk_Mo_readTerm 14 rfl) ?_
        refine wp_cS1i (ck_get kk_Mo_readTerm 15 rfl) ml_Mo_253 (by omega) (Nat.le_of_ble_eq_true rfl) (Ci.to (m_signOf) ?_)
        rintro _ M1 ⟨rfl, eqm1⟩
        obtain rfl := eqm1.symm
        refine wp_cV1i (ck_get kk_Mo_readTerm 16 rfl) ml_Mo_211 (by omega) (Nat.le_of_ble_eq_true rfl) (by assumption) (Ci.to (m_takesY hT hi hs2) ?_)
        rintro _ M1 ⟨rfl, eqm1⟩
        obtain rfl := eqm1.symm
        first | refine wp_if_eqN (t := 49) (ck_get kk_Mo_readTerm 17 rfl) (by decide) (by omega) (fun hc38 => ?_) (fun hc38 => ?_) | refine wp_if_eq (t := 49) (ck_get kk_Mo_readTerm 17 rfl) (by decide) (fun hc38 => ?_) (fun hc38 => ?_)
        · omega
        · refine wp_aload_n rfl (ck_get kk_Mo_readTerm 18 rfl) ?_
          refine wp_iload_n rfl (ck_get kk_Mo_readTerm 19 rfl) ?_
          refine wp_cV1v (ck_get kk_Mo_readTerm 20 rfl) ml_Mo_260 (by omega) (Nat.le_of_ble_eq_true rfl) (by assumption) (Cv.to (h1 d (i + 1) lf cl hd (by omega) hlf (by omega)) ?_)
          rintro M₁ hq₁
          refine wp_goto (t := 5) (ck_get kk_Mo_readTerm 21 rfl) (by decide) ?_
          exact go _ hq₁
  rw [if_neg (by omega)]
  refine wp_aload_n rfl (ck_get kk_Mo_readTerm 3 rfl) ?_
  refine wp_bipush (v := nI 42) (by decide) (ck_get kk_Mo_readTerm 4 rfl) ?_
  refine wp_cS1i (ck_get kk_Mo_readTerm 5 rfl) ml_Mo_253 (by omega) (Nat.le_of_ble_eq_true rfl) (Ci.to (m_signOf) ?_)
  rintro _ M1 ⟨rfl, eqm1⟩
  obtain rfl := eqm1.symm
  refine wp_cV1i (ck_get kk_Mo_readTerm 6 rfl) ml_Mo_211 (by omega) (Nat.le_of_ble_eq_true rfl) (by assumption) (Ci.to (m_takesN hT hi hs0 (by omega)) ?_)
  rintro _ M1 ⟨rfl, eqm1⟩
  obtain rfl := eqm1.symm
  first | refine wp_if_neN (t := 41) (ck_get kk_Mo_readTerm 7 rfl) (by decide) (by omega) (fun hc14 => ?_) (fun hc14 => ?_) | refine wp_if_ne (t := 41) (ck_get kk_Mo_readTerm 7 rfl) (by decide) (fun hc14 => ?_) (fun hc14 => ?_)
  · omega
  · refine wp_aload_n rfl (ck_get kk_Mo_readTerm 8 rfl) ?_
    refine wp_bipush (v := nI 47) (by decide) (ck_get kk_Mo_readTerm 9 rfl) ?_
    refine wp_cS1i (ck_get kk_Mo_readTerm 10 rfl) ml_Mo_253 (by omega) (Nat.le_of_ble_eq_true rfl) (Ci.to (m_signOf) ?_)
    rintro _ M1 ⟨rfl, eqm1⟩
    obtain rfl := eqm1.symm
    refine wp_cV1i (ck_get kk_Mo_readTerm 11 rfl) ml_Mo_211 (by omega) (Nat.le_of_ble_eq_true rfl) (by assumption) (Ci.to (m_takesN hT hi hs1 (by omega)) ?_)
    rintro _ M1 ⟨rfl, eqm1⟩
    obtain rfl := eqm1.symm
    first | refine wp_if_neN (t := 41) (ck_get kk_Mo_readTerm 12 rfl) (by decide) (by omega) (fun hc26 => ?_) (fun hc26 => ?_) | refine wp_if_ne (t := 41) (ck_get kk_Mo_readTerm 12 rfl) (by decide) (fun hc26 => ?_) (fun hc26 => ?_)
    · omega
    · refine wp_aload_n rfl (ck_get kk_Mo_readTerm 13 rfl) ?_
      refine wp_bipush (v := nI 37) (by decide) (ck_get kk_Mo_readTerm 14 rfl) ?_
      refine wp_cS1i (ck_get kk_Mo_readTerm 15 rfl) ml_Mo_253 (by omega) (Nat.le_of_ble_eq_true rfl) (Ci.to (m_signOf) ?_)
      rintro _ M1 ⟨rfl, eqm1⟩
      obtain rfl := eqm1.symm
      refine wp_cV1i (ck_get kk_Mo_readTerm 16 rfl) ml_Mo_211 (by omega) (Nat.le_of_ble_eq_true rfl) (by assumption) (Ci.to (m_takesN hT hi hs2 (by omega)) ?_)
      rintro _ M1 ⟨rfl, eqm1⟩
      obtain rfl := eqm1.symm
      first | refine wp_if_eqN (t := 49) (ck_get kk_Mo_readTerm 17 rfl) (by decide) (by omega) (fun hc38 => ?_) (fun hc38 => ?_) | refine wp_if_eq (t := 49) (ck_get kk_Mo_readTerm 17 rfl) (by decide) (fun hc38 => ?_) (fun hc38 => ?_)
      · refine wp_return (ck_get kk_Mo_readTerm 22 rfl) rfl ⟨rfl, ?_⟩
        exact rdQ.yes
      · omega
theorem mr_Term (hT : TkOK M o N tc tv pl od) (h1 : MN g M o N tc tv pl od Y_Mo_readPart 7 0 1 f) (h2 : ML g M o N tc tv pl od Y_Mo_readTerm 8 1 f) : MN g M o N tc tv pl od Y_Mo_readTerm 8 2 2 (f + 1) := by
  intro d i lf cl hd hi hlf hf
  have to0 := hT.1.1
  rw [psr_2]
  refine cw_entry 0 pf_Mo_readTerm rfl ?_
  refine wp_aload_n rfl (ck_get kk_Mo_readTerm 0 rfl) ?_
  refine wp_iload_n rfl (ck_get kk_Mo_readTerm 1 rfl) ?_
  refine wp_cV1v (ck_get kk_Mo_readTerm 2 rfl) ml_Mo_260 (by omega) (Nat.le_of_ble_eq_true rfl) (by assumption) (Cv.to (h1 d i lf cl hd hi hlf (by omega)) ?_)
  rintro M₁ hq₁
  rcases hq₁ with ⟨j, lf2, sg, hr, rfl⟩ | ⟨j, lf2, sg, i2, lf3, hr, rfl⟩
  · obtain ⟨g1, g2, g3, g4, g5⟩ := psr_ok (N := N) hT.2.2.1 f 0 d i lf cl j lf2 sg (by omega) hr hi hlf
    rw [show ntk 0 = 1 from rfl] at g1
    rw [hr, pbd_y]
    refine Wp.mono (h2 d j lf2 (cl + sg.length) hd g2 g3 (by omega)) ?_
    rintro r₂ M₂ ⟨hr₂, hq₂⟩
    exact ⟨hr₂, hq₂.pb⟩
  · rw [hr, pbd_n]
    refine Wp.mono (mb_Term5 hT.1 (nI_m1 (hT.2.2.2.2.1 j)) (by omega)) ?_
    rintro r₂ M₂ ⟨hr₂, rfl⟩
    exact ⟨hr₂, rdQ.no⟩
theorem mb_Sum5 {d : Nat} {n : Nat} (hM : MoAt (mT M) (mR M) o) (hb : ¬ b = -1) (hn : 3 ≤ n) : Wp g Y_Mo_readSum n 5 [some (.ref o), some (.int (nI d))] [] (rdM M o i lf b) (fun r M2 => r = none ∧ M2 = rdM M o i lf b) := by
  have to0 := hM.1
  refine wp_aload_n rfl (ck_get kk_Mo_readSum 3 rfl) ?_
  refine wp_bipush (v := nI 43) (by decide) (ck_get kk_Mo_readSum 4 rfl) ?_
  refine wp_cS1i (ck_get kk_Mo_readSum 5 rfl) ml_Mo_253 (by omega) (Nat.le_of_ble_eq_true rfl) (Ci.to (m_signOf) ?_)
  rintro _ M1 ⟨rfl, eqm1⟩
  obtain rfl := eqm1.symm
  refine wp_cV1i (ck_get kk_Mo_readSum 6 rfl) ml_Mo_211 (by omega) (Nat.le_of_ble_eq_true rfl) (by assumption) (Ci.to (m_takesB hM hb) ?_)
  rintro _ M1 ⟨rfl, eqm1⟩
  obtain rfl := eqm1.symm
  first | refine wp_if_neN (t := 29) (ck_get kk_Mo_readSum 7 rfl) (by decide) (by omega) (fun hc14 => ?_) (fun hc14 => ?_) | refine wp_if_ne (t := 29) (ck_get kk_Mo_readSum 7 rfl) (by decide) (fun hc14 => ?_) (fun hc14 => ?_)
  · omega
  · refine wp_aload_n rfl (ck_get kk_Mo_readSum 8 rfl) ?_
    refine wp_bipush (v := nI 45) (by decide) (ck_get kk_Mo_readSum 9 rfl) ?_
    refine wp_cS1i (ck_get kk_Mo_readSum 10 rfl) ml_Mo_253 (by omega) (Nat.le_of_ble_eq_true rfl) (Ci.to (m_signOf) ?_)
    rintro _ M1 ⟨rfl, eqm1⟩
    obtain rfl := eqm1.symm
    refine wp_cV1i (ck_get kk_Mo_readSum 11 rfl) ml_Mo_211 (by omega) (Nat.le_of_ble_eq_true rfl) (by assumption) (Ci.to (m_takesB hM hb) ?_)
    rintro _ M1 ⟨rfl, eqm1⟩
    obtain rfl := eqm1.symm
    first | refine wp_if_eqN (t := 37) (ck_get kk_Mo_readSum 12 rfl) (by decide) (by omega) (fun hc26 => ?_) (fun hc26 => ?_) | refine wp_if_eq (t := 37) (ck_get kk_Mo_readSum 12 rfl) (by decide) (fun hc26 => ?_) (fun hc26 => ?_)
    · refine wp_return (ck_get kk_Mo_readSum 17 rfl) rfl ⟨rfl, ?_⟩
      rfl
    · omega
theorem mr_SumR (hT : TkOK M o N tc tv pl od) (h1 : MN g M o N tc tv pl od Y_Mo_readTerm 8 2 2 f) (h2 : ML g M o N tc tv pl od Y_Mo_readSum 9 3 f) : ML g M o N tc tv pl od Y_Mo_readSum 9 3 (f + 1) := by
  intro d i lf cl hd hi hlf hf
  have to0 := hT.1.1
  rw [psr_3]
  by_cases hs0 : tc i = 100 + 43
  · have hiN := hT.2.2.1 i (by omega)
    rw [if_pos (by omega)]
    have go : ∀ M₁, rdQ M o pl (psr tc tv od f 2 d (i + 1) lf cl) M₁ → Wp g Y_Mo_readSum (20 * (9 - d) + 9) 5 [some (.ref o), some (.int (nI d))] [] M₁ (fun r M2 => r = none ∧ rdQ M o pl (pbd (psr tc tv od f 2 d (i + 1) lf cl) (fun j lf2 sg => pbd (psr tc tv od f 3 d j lf2 (cl + (sg ++ [nI (tc i - 100), nI 0]).length)) (fun j2 lf3 sg2 => (true, j2, lf3, (sg ++ [nI (tc i - 100), nI 0]) ++ sg2)))) M2) := by
      rintro M₁ (⟨j, lf2, sg, hr, rfl⟩ | ⟨j, lf2, sg, i2, lf3, hr, rfl⟩)
      · obtain ⟨g1, g2, g3, g4, g5⟩ := psr_ok (N := N) hT.2.2.1 f 2 d (i + 1) lf cl j lf2 sg (by omega) hr (by omega) hlf
        rw [show ntk 2 = 1 from rfl] at g1
        rw [hr, pbd_y]
        refine Wp.mono (h2 d j lf2 (cl + (sg ++ [nI (tc i - 100), nI 0]).length) hd g2 g3 (by omega)) ?_
        rintro r₂ M₂ ⟨hr₂, hq₂⟩
        exact ⟨hr₂, hq₂.pb⟩
      · rw [hr, pbd_n]
        refine Wp.mono (mb_Sum5 hT.1 (nI_m1 (hT.2.2.2.2.1 j)) (by omega)) ?_
        rintro r₂ M₂ ⟨hr₂, rfl⟩
        exact ⟨hr₂, rdQ.no⟩
    refine wp_aload_n rfl (ck_get kk_Mo_readSum 3 rfl) ?_
    refine wp_bipush (v := nI 43) (by decide) (ck_get kk_Mo_readSum 4 rfl) ?_
    refine wp_cS1i (ck_get kk_Mo_readSum 5 rfl) ml_Mo_253 (by omega) (Nat.le_of_ble_eq_true rfl) (Ci.to (m_signOf) ?_)
    rintro _ M1 ⟨rfl, eqm1⟩
    obtain rfl := eqm1.symm
    refine wp_cV1i (ck_get kk_Mo_readSum 6 rfl) ml_Mo_211 (by omega) (Nat.le_of_ble_eq_true rfl) (by assumption) (Ci.to (m_takesY hT hi hs0) ?_)
    rintro _ M1 ⟨rfl, eqm1⟩
    obtain rfl := eqm1.symm
    first | refine wp_if_neN (t := 29) (ck_get kk_Mo_readSum 7 rfl) (by decide) (by omega) (fun hc14 => ?_) (fun hc14 => ?_) | refine wp_if_ne (t := 29) (ck_get kk_Mo_readSum 7 rfl) (by decide) (fun hc14 => ?_) (fun hc14 => ?_)
    · refine wp_aload_n rfl (ck_get kk_Mo_readSum 13 rfl) ?_
      refine wp_iload_n rfl (ck_get kk_Mo_readSum 14 rfl) ?_
      refine wp_cV1v (ck_get kk_Mo_readSum 15 rfl) ml_Mo_257 (by omega) (Nat.le_of_ble_eq_true rfl) (by assumption) (Cv.to (h1 d (i + 1) lf cl hd (by omega) hlf (by omega)) ?_)
      rintro M₁ hq₁
      refine wp_goto (t := 5) (ck_get kk_Mo_readSum 16 rfl) (by decide) ?_
      exact go _ hq₁
    · omega
  by_cases hs1 : tc i = 100 + 45
  · have hiN := hT.2.2.1 i (by omega)
    rw [if_pos (by omega)]
    have go : ∀ M₁, rdQ M o pl (psr tc tv od f 2 d (i + 1) lf cl) M₁ → Wp g Y_Mo_readSum (20 * (9 - d) + 9) 5 [some (.ref o), some (.int (nI d))] [] M₁ (fun r M2 => r = none ∧ rdQ M o pl (pbd (psr tc tv od f 2 d (i + 1) lf cl) (fun j lf2 sg => pbd (psr tc tv od f 3 d j lf2 (cl + (sg ++ [nI (tc i - 100), nI 0]).length)) (fun j2 lf3 sg2 => (true, j2, lf3, (sg ++ [nI (tc i - 100), nI 0]) ++ sg2)))) M2) := by
      rintro M₁ (⟨j, lf2, sg, hr, rfl⟩ | ⟨j, lf2, sg, i2, lf3, hr, rfl⟩)
      · obtain ⟨g1, g2, g3, g4, g5⟩ := psr_ok (N := N) hT.2.2.1 f 2 d (i + 1) lf cl j lf2 sg (by omega) hr (by omega) hlf
        rw [show ntk 2 = 1 from rfl] at g1
        rw [hr, pbd_y]
        refine Wp.mono (h2 d j lf2 (cl + (sg ++ [nI (tc i - 100), nI 0]).length) hd g2 g3 (by omega)) ?_
        rintro r₂ M₂ ⟨hr₂, hq₂⟩
        exact ⟨hr₂, hq₂.pb⟩
      · rw [hr, pbd_n]
        refine Wp.mono (mb_Sum5 hT.1 (nI_m1 (hT.2.2.2.2.1 j)) (by omega)) ?_
        rintro r₂ M₂ ⟨hr₂, rfl⟩
        exact ⟨hr₂, rdQ.no⟩
    refine wp_aload_n rfl (ck_get kk_Mo_readSum 3 rfl) ?_
    refine wp_bipush (v := nI 43) (by decide) (ck_get kk_Mo_readSum 4 rfl) ?_
    refine wp_cS1i (ck_get kk_Mo_readSum 5 rfl) ml_Mo_253 (by omega) (Nat.le_of_ble_eq_true rfl) (Ci.to (m_signOf) ?_)
    rintro _ M1 ⟨rfl, eqm1⟩
    obtain rfl := eqm1.symm
    refine wp_cV1i (ck_get kk_Mo_readSum 6 rfl) ml_Mo_211 (by omega) (Nat.le_of_ble_eq_true rfl) (by assumption) (Ci.to (m_takesN hT hi hs0 (by omega)) ?_)
    rintro _ M1 ⟨rfl, eqm1⟩
    obtain rfl := eqm1.symm
    first | refine wp_if_neN (t := 29) (ck_get kk_Mo_readSum 7 rfl) (by decide) (by omega) (fun hc14 => ?_) (fun hc14 => ?_) | refine wp_if_ne (t := 29) (ck_get kk_Mo_readSum 7 rfl) (by decide) (fun hc14 => ?_) (fun hc14 => ?_)
    · omega
    · refine wp_aload_n rfl (ck_get kk_Mo_readSum 8 rfl) ?_
      refine wp_bipush (v := nI 45) (by decide) (ck_get kk_Mo_readSum 9 rfl) ?_
      refine wp_cS1i (ck_get kk_Mo_readSum 10 rfl) ml_Mo_253 (by omega) (Nat.le_of_ble_eq_true rfl) (Ci.to (m_signOf) ?_)
      rintro _ M1 ⟨rfl, eqm1⟩
      obtain rfl := eqm1.symm
      refine wp_cV1i (ck_get kk_Mo_readSum 11 rfl) ml_Mo_211 (by omega) (Nat.le_of_ble_eq_true rfl) (by assumption) (Ci.to (m_takesY hT hi hs1) ?_)
      rintro _ M1 ⟨rfl, eqm1⟩
      obtain rfl := eqm1.symm
      first | refine wp_if_eqN (t := 37) (ck_get kk_Mo_readSum 12 rfl) (by decide) (by omega) (fun hc26 => ?_) (fun hc26 => ?_) | refine wp_if_eq (t := 37) (ck_get kk_Mo_readSum 12 rfl) (by decide) (fun hc26 => ?_) (fun hc26 => ?_)
      · omega
      · refine wp_aload_n rfl (ck_get kk_Mo_readSum 13 rfl) ?_
        refine wp_iload_n rfl (ck_get kk_Mo_readSum 14 rfl) ?_
        refine wp_cV1v (ck_get kk_Mo_readSum 15 rfl) ml_Mo_257 (by omega) (Nat.le_of_ble_eq_true rfl) (by assumption) (Cv.to (h1 d (i + 1) lf cl hd (by omega) hlf (by omega)) ?_)
        rintro M₁ hq₁
        refine wp_goto (t := 5) (ck_get kk_Mo_readSum 16 rfl) (by decide) ?_
        exact go _ hq₁
  rw [if_neg (by omega)]
  refine wp_aload_n rfl (ck_get kk_Mo_readSum 3 rfl) ?_
  refine wp_bipush (v := nI 43) (by decide) (ck_get kk_Mo_readSum 4 rfl) ?_
  refine wp_cS1i (ck_get kk_Mo_readSum 5 rfl) ml_Mo_253 (by omega) (Nat.le_of_ble_eq_true rfl) (Ci.to (m_signOf) ?_)
  rintro _ M1 ⟨rfl, eqm1⟩
  obtain rfl := eqm1.symm
  refine wp_cV1i (ck_get kk_Mo_readSum 6 rfl) ml_Mo_211 (by omega) (Nat.le_of_ble_eq_true rfl) (by assumption) (Ci.to (m_takesN hT hi hs0 (by omega)) ?_)
  rintro _ M1 ⟨rfl, eqm1⟩
  obtain rfl := eqm1.symm
  first | refine wp_if_neN (t := 29) (ck_get kk_Mo_readSum 7 rfl) (by decide) (by omega) (fun hc14 => ?_) (fun hc14 => ?_) | refine wp_if_ne (t := 29) (ck_get kk_Mo_readSum 7 rfl) (by decide) (fun hc14 => ?_) (fun hc14 => ?_)
  · omega
  · refine wp_aload_n rfl (ck_get kk_Mo_readSum 8 rfl) ?_
    refine wp_bipush (v := nI 45) (by decide) (ck_get kk_Mo_readSum 9 rfl) ?_
    refine wp_cS1i (ck_get kk_Mo_readSum 10 rfl) ml_Mo_253 (by omega) (Nat.le_of_ble_eq_true rfl) (Ci.to (m_signOf) ?_)
    rintro _ M1 ⟨rfl, eqm1⟩
    obtain rfl := eqm1.symm
    refine wp_cV1i (ck_get kk_Mo_readSum 11 rfl) ml_Mo_211 (by omega) (Nat.le_of_ble_eq_true rfl) (by assumption) (Ci.to (m_takesN hT hi hs1 (by omega)) ?_)
    rintro _ M1 ⟨rfl, eqm1⟩
    obtain rfl := eqm1.symm
    first | refine wp_if_eqN (t := 37) (ck_get kk_Mo_readSum 12 rfl) (by decide) (by omega) (fun hc26 => ?_) (fun hc26 => ?_) | refine wp_if_eq (t := 37) (ck_get kk_Mo_readSum 12 rfl) (by decide) (fun hc26 => ?_) (fun hc26 => ?_)
    · refine wp_return (ck_get kk_Mo_readSum 17 rfl) rfl ⟨rfl, ?_⟩
      exact rdQ.yes
    · omega
theorem mr_Sum (hT : TkOK M o N tc tv pl od) (h1 : MN g M o N tc tv pl od Y_Mo_readTerm 8 2 2 f) (h2 : ML g M o N tc tv pl od Y_Mo_readSum 9 3 f) : MN g M o N tc tv pl od Y_Mo_readSum 9 4 3 (f + 1) := by
  intro d i lf cl hd hi hlf hf
  have to0 := hT.1.1
  rw [psr_4]
  refine cw_entry 0 pf_Mo_readSum rfl ?_
  refine wp_aload_n rfl (ck_get kk_Mo_readSum 0 rfl) ?_
  refine wp_iload_n rfl (ck_get kk_Mo_readSum 1 rfl) ?_
  refine wp_cV1v (ck_get kk_Mo_readSum 2 rfl) ml_Mo_257 (by omega) (Nat.le_of_ble_eq_true rfl) (by assumption) (Cv.to (h1 d i lf cl hd hi hlf (by omega)) ?_)
  rintro M₁ hq₁
  rcases hq₁ with ⟨j, lf2, sg, hr, rfl⟩ | ⟨j, lf2, sg, i2, lf3, hr, rfl⟩
  · obtain ⟨g1, g2, g3, g4, g5⟩ := psr_ok (N := N) hT.2.2.1 f 2 d i lf cl j lf2 sg (by omega) hr hi hlf
    rw [show ntk 2 = 1 from rfl] at g1
    rw [hr, pbd_y]
    refine Wp.mono (h2 d j lf2 (cl + sg.length) hd g2 g3 (by omega)) ?_
    rintro r₂ M₂ ⟨hr₂, hq₂⟩
    exact ⟨hr₂, hq₂.pb⟩
  · rw [hr, pbd_n]
    refine Wp.mono (mb_Sum5 hT.1 (nI_m1 (hT.2.2.2.2.1 j)) (by omega)) ?_
    rintro r₂ M₂ ⟨hr₂, rfl⟩
    exact ⟨hr₂, rdQ.no⟩
theorem mb_Both5 {d : Nat} {n : Nat} (hM : MoAt (mT M) (mR M) o) (hb : ¬ b = -1) (hn : 3 ≤ n) : Wp g Y_Mo_readBoth n 5 [some (.ref o), some (.int (nI d))] [] (rdM M o i lf b) (fun r M2 => r = none ∧ M2 = rdM M o i lf b) := by
  have to0 := hM.1
  refine wp_aload_n rfl (ck_get kk_Mo_readBoth 3 rfl) ?_
  refine wp_iconst (v := nI 5) (by decide) (ck_get kk_Mo_readBoth 4 rfl) ?_
  refine wp_cV1i (ck_get kk_Mo_readBoth 5 rfl) ml_Mo_211 (by omega) (Nat.le_of_ble_eq_true rfl) (by assumption) (Ci.to (m_takesB hM hb) ?_)
  rintro _ M1 ⟨rfl, eqm1⟩
  obtain rfl := eqm1.symm
  first | refine wp_if_eqN (t := 21) (ck_get kk_Mo_readBoth 6 rfl) (by decide) (by omega) (fun hc10 => ?_) (fun hc10 => ?_) | refine wp_if_eq (t := 21) (ck_get kk_Mo_readBoth 6 rfl) (by decide) (fun hc10 => ?_) (fun hc10 => ?_)
  · refine wp_return (ck_get kk_Mo_readBoth 11 rfl) rfl ⟨rfl, ?_⟩
    rfl
  · omega
theorem mr_BothR (hT : TkOK M o N tc tv pl od) (h1 : MN g M o N tc tv pl od Y_Mo_readPlain 11 5 4 f) (h2 : ML g M o N tc tv pl od Y_Mo_readBoth 12 7 f) : ML g M o N tc tv pl od Y_Mo_readBoth 12 7 (f + 1) := by
  intro d i lf cl hd hi hlf hf
  have to0 := hT.1.1
  rw [psr_7]
  by_cases hs0 : tc i = 5
  · have hiN := hT.2.2.1 i (by omega)
    rw [if_pos (by omega)]
    have go : ∀ M₁, rdQ M o pl (psr tc tv od f 5 d (i + 1) lf (cl + 2)) M₁ → Wp g Y_Mo_readBoth (20 * (9 - d) + 12) 5 [some (.ref o), some (.int (nI d))] [] M₁ (fun r M2 => r = none ∧ rdQ M o pl (pbd (psr tc tv od f 5 d (i + 1) lf (cl + 2)) (fun j lf2 sg => pbd (psr tc tv od f 7 d j lf2 (cl + ([nI 5, nI (cl + 2 + sg.length)] ++ sg).length)) (fun j2 lf3 sg2 => (true, j2, lf3, ([nI 5, nI (cl + 2 + sg.length)] ++ sg) ++ sg2)))) M2) := by
      rintro M₁ (⟨j, lf2, sg, hr, rfl⟩ | ⟨j, lf2, sg, i2, lf3, hr, rfl⟩)
      · obtain ⟨g1, g2, g3, g4, g5⟩ := psr_ok (N := N) hT.2.2.1 f 5 d (i + 1) lf (cl + 2) j lf2 sg (by omega) hr (by omega) hlf
        rw [show ntk 5 = 1 from rfl] at g1
        rw [hr, pbd_y]
        refine Wp.mono (h2 d j lf2 (cl + ([nI 5, nI (cl + 2 + sg.length)] ++ sg).length) hd g2 g3 (by omega)) ?_
        rintro r₂ M₂ ⟨hr₂, hq₂⟩
        exact ⟨hr₂, hq₂.pb⟩
      · rw [hr, pbd_n]
        refine Wp.mono (mb_Both5 hT.1 (nI_m1 (hT.2.2.2.2.1 j)) (by omega)) ?_
        rintro r₂ M₂ ⟨hr₂, rfl⟩
        exact ⟨hr₂, rdQ.no⟩
    refine wp_aload_n rfl (ck_get kk_Mo_readBoth 3 rfl) ?_
    refine wp_iconst (v := nI 5) (by decide) (ck_get kk_Mo_readBoth 4 rfl) ?_
    refine wp_cV1i (ck_get kk_Mo_readBoth 5 rfl) ml_Mo_211 (by omega) (Nat.le_of_ble_eq_true rfl) (by assumption) (Ci.to (m_takesY hT hi hs0) ?_)
    rintro _ M1 ⟨rfl, eqm1⟩
    obtain rfl := eqm1.symm
    first | refine wp_if_eqN (t := 21) (ck_get kk_Mo_readBoth 6 rfl) (by decide) (by omega) (fun hc10 => ?_) (fun hc10 => ?_) | refine wp_if_eq (t := 21) (ck_get kk_Mo_readBoth 6 rfl) (by decide) (fun hc10 => ?_) (fun hc10 => ?_)
    · omega
    · refine wp_aload_n rfl (ck_get kk_Mo_readBoth 7 rfl) ?_
      refine wp_iload_n rfl (ck_get kk_Mo_readBoth 8 rfl) ?_
      refine wp_cV1v (ck_get kk_Mo_readBoth 9 rfl) ml_Mo_250 (by omega) (Nat.le_of_ble_eq_true rfl) (by assumption) (Cv.to (h1 d (i + 1) lf (cl + 2) hd (by omega) hlf (by omega)) ?_)
      rintro M₁ hq₁
      refine wp_goto (t := 5) (ck_get kk_Mo_readBoth 10 rfl) (by decide) ?_
      exact go _ hq₁
  rw [if_neg (by omega)]
  refine wp_aload_n rfl (ck_get kk_Mo_readBoth 3 rfl) ?_
  refine wp_iconst (v := nI 5) (by decide) (ck_get kk_Mo_readBoth 4 rfl) ?_
  refine wp_cV1i (ck_get kk_Mo_readBoth 5 rfl) ml_Mo_211 (by omega) (Nat.le_of_ble_eq_true rfl) (by assumption) (Ci.to (m_takesN hT hi hs0 (by omega)) ?_)
  rintro _ M1 ⟨rfl, eqm1⟩
  obtain rfl := eqm1.symm
  first | refine wp_if_eqN (t := 21) (ck_get kk_Mo_readBoth 6 rfl) (by decide) (by omega) (fun hc10 => ?_) (fun hc10 => ?_) | refine wp_if_eq (t := 21) (ck_get kk_Mo_readBoth 6 rfl) (by decide) (fun hc10 => ?_) (fun hc10 => ?_)
  · refine wp_return (ck_get kk_Mo_readBoth 11 rfl) rfl ⟨rfl, ?_⟩
    exact rdQ.yes
  · omega
theorem mr_Both (hT : TkOK M o N tc tv pl od) (h1 : MN g M o N tc tv pl od Y_Mo_readPlain 11 5 4 f) (h2 : ML g M o N tc tv pl od Y_Mo_readBoth 12 7 f) : MN g M o N tc tv pl od Y_Mo_readBoth 12 8 5 (f + 1) := by
  intro d i lf cl hd hi hlf hf
  have to0 := hT.1.1
  rw [psr_8]
  refine cw_entry 0 pf_Mo_readBoth rfl ?_
  refine wp_aload_n rfl (ck_get kk_Mo_readBoth 0 rfl) ?_
  refine wp_iload_n rfl (ck_get kk_Mo_readBoth 1 rfl) ?_
  refine wp_cV1v (ck_get kk_Mo_readBoth 2 rfl) ml_Mo_250 (by omega) (Nat.le_of_ble_eq_true rfl) (by assumption) (Cv.to (h1 d i lf cl hd hi hlf (by omega)) ?_)
  rintro M₁ hq₁
  rcases hq₁ with ⟨j, lf2, sg, hr, rfl⟩ | ⟨j, lf2, sg, i2, lf3, hr, rfl⟩
  · obtain ⟨g1, g2, g3, g4, g5⟩ := psr_ok (N := N) hT.2.2.1 f 5 d i lf cl j lf2 sg (by omega) hr hi hlf
    rw [show ntk 5 = 1 from rfl] at g1
    rw [hr, pbd_y]
    refine Wp.mono (h2 d j lf2 (cl + sg.length) hd g2 g3 (by omega)) ?_
    rintro r₂ M₂ ⟨hr₂, hq₂⟩
    exact ⟨hr₂, hq₂.pb⟩
  · rw [hr, pbd_n]
    refine Wp.mono (mb_Both5 hT.1 (nI_m1 (hT.2.2.2.2.1 j)) (by omega)) ?_
    rintro r₂ M₂ ⟨hr₂, rfl⟩
    exact ⟨hr₂, rdQ.no⟩
theorem mb_Test5 {d : Nat} {n : Nat} (hM : MoAt (mT M) (mR M) o) (hb : ¬ b = -1) (hn : 3 ≤ n) : Wp g Y_Mo_readTest n 5 [some (.ref o), some (.int (nI d))] [] (rdM M o i lf b) (fun r M2 => r = none ∧ M2 = rdM M o i lf b) := by
  have to0 := hM.1
  refine wp_aload_n rfl (ck_get kk_Mo_readTest 3 rfl) ?_
  refine wp_iconst (v := nI 4) (by decide) (ck_get kk_Mo_readTest 4 rfl) ?_
  refine wp_cV1i (ck_get kk_Mo_readTest 5 rfl) ml_Mo_211 (by omega) (Nat.le_of_ble_eq_true rfl) (by assumption) (Ci.to (m_takesB hM hb) ?_)
  rintro _ M1 ⟨rfl, eqm1⟩
  obtain rfl := eqm1.symm
  first | refine wp_if_eqN (t := 21) (ck_get kk_Mo_readTest 6 rfl) (by decide) (by omega) (fun hc10 => ?_) (fun hc10 => ?_) | refine wp_if_eq (t := 21) (ck_get kk_Mo_readTest 6 rfl) (by decide) (fun hc10 => ?_) (fun hc10 => ?_)
  · refine wp_return (ck_get kk_Mo_readTest 11 rfl) rfl ⟨rfl, ?_⟩
    rfl
  · omega
theorem mr_TestR (hT : TkOK M o N tc tv pl od) (h1 : MN g M o N tc tv pl od Y_Mo_readBoth 12 8 5 f) (h2 : ML g M o N tc tv pl od Y_Mo_readTest 13 9 f) : ML g M o N tc tv pl od Y_Mo_readTest 13 9 (f + 1) := by
  intro d i lf cl hd hi hlf hf
  have to0 := hT.1.1
  rw [psr_9]
  by_cases hs0 : tc i = 4
  · have hiN := hT.2.2.1 i (by omega)
    rw [if_pos (by omega)]
    have go : ∀ M₁, rdQ M o pl (psr tc tv od f 8 d (i + 1) lf (cl + 2)) M₁ → Wp g Y_Mo_readTest (20 * (9 - d) + 13) 5 [some (.ref o), some (.int (nI d))] [] M₁ (fun r M2 => r = none ∧ rdQ M o pl (pbd (psr tc tv od f 8 d (i + 1) lf (cl + 2)) (fun j lf2 sg => pbd (psr tc tv od f 9 d j lf2 (cl + ([nI 4, nI (cl + 2 + sg.length)] ++ sg).length)) (fun j2 lf3 sg2 => (true, j2, lf3, ([nI 4, nI (cl + 2 + sg.length)] ++ sg) ++ sg2)))) M2) := by
      rintro M₁ (⟨j, lf2, sg, hr, rfl⟩ | ⟨j, lf2, sg, i2, lf3, hr, rfl⟩)
      · obtain ⟨g1, g2, g3, g4, g5⟩ := psr_ok (N := N) hT.2.2.1 f 8 d (i + 1) lf (cl + 2) j lf2 sg (by omega) hr (by omega) hlf
        rw [show ntk 8 = 1 from rfl] at g1
        rw [hr, pbd_y]
        refine Wp.mono (h2 d j lf2 (cl + ([nI 4, nI (cl + 2 + sg.length)] ++ sg).length) hd g2 g3 (by omega)) ?_
        rintro r₂ M₂ ⟨hr₂, hq₂⟩
        exact ⟨hr₂, hq₂.pb⟩
      · rw [hr, pbd_n]
        refine Wp.mono (mb_Test5 hT.1 (nI_m1 (hT.2.2.2.2.1 j)) (by omega)) ?_
        rintro r₂ M₂ ⟨hr₂, rfl⟩
        exact ⟨hr₂, rdQ.no⟩
    refine wp_aload_n rfl (ck_get kk_Mo_readTest 3 rfl) ?_
    refine wp_iconst (v := nI 4) (by decide) (ck_get kk_Mo_readTest 4 rfl) ?_
    refine wp_cV1i (ck_get kk_Mo_readTest 5 rfl) ml_Mo_211 (by omega) (Nat.le_of_ble_eq_true rfl) (by assumption) (Ci.to (m_takesY hT hi hs0) ?_)
    rintro _ M1 ⟨rfl, eqm1⟩
    obtain rfl := eqm1.symm
    first | refine wp_if_eqN (t := 21) (ck_get kk_Mo_readTest 6 rfl) (by decide) (by omega) (fun hc10 => ?_) (fun hc10 => ?_) | refine wp_if_eq (t := 21) (ck_get kk_Mo_readTest 6 rfl) (by decide) (fun hc10 => ?_) (fun hc10 => ?_)
    · omega
    · refine wp_aload_n rfl (ck_get kk_Mo_readTest 7 rfl) ?_
      refine wp_iload_n rfl (ck_get kk_Mo_readTest 8 rfl) ?_
      refine wp_cV1v (ck_get kk_Mo_readTest 9 rfl) ml_Mo_247 (by omega) (Nat.le_of_ble_eq_true rfl) (by assumption) (Cv.to (h1 d (i + 1) lf (cl + 2) hd (by omega) hlf (by omega)) ?_)
      rintro M₁ hq₁
      refine wp_goto (t := 5) (ck_get kk_Mo_readTest 10 rfl) (by decide) ?_
      exact go _ hq₁
  rw [if_neg (by omega)]
  refine wp_aload_n rfl (ck_get kk_Mo_readTest 3 rfl) ?_
  refine wp_iconst (v := nI 4) (by decide) (ck_get kk_Mo_readTest 4 rfl) ?_
  refine wp_cV1i (ck_get kk_Mo_readTest 5 rfl) ml_Mo_211 (by omega) (Nat.le_of_ble_eq_true rfl) (by assumption) (Ci.to (m_takesN hT hi hs0 (by omega)) ?_)
  rintro _ M1 ⟨rfl, eqm1⟩
  obtain rfl := eqm1.symm
  first | refine wp_if_eqN (t := 21) (ck_get kk_Mo_readTest 6 rfl) (by decide) (by omega) (fun hc10 => ?_) (fun hc10 => ?_) | refine wp_if_eq (t := 21) (ck_get kk_Mo_readTest 6 rfl) (by decide) (fun hc10 => ?_) (fun hc10 => ?_)
  · refine wp_return (ck_get kk_Mo_readTest 11 rfl) rfl ⟨rfl, ?_⟩
    exact rdQ.yes
  · omega
theorem mr_Test (hT : TkOK M o N tc tv pl od) (h1 : MN g M o N tc tv pl od Y_Mo_readBoth 12 8 5 f) (h2 : ML g M o N tc tv pl od Y_Mo_readTest 13 9 f) : MN g M o N tc tv pl od Y_Mo_readTest 13 10 6 (f + 1) := by
  intro d i lf cl hd hi hlf hf
  have to0 := hT.1.1
  rw [psr_10]
  refine cw_entry 0 pf_Mo_readTest rfl ?_
  refine wp_aload_n rfl (ck_get kk_Mo_readTest 0 rfl) ?_
  refine wp_iload_n rfl (ck_get kk_Mo_readTest 1 rfl) ?_
  refine wp_cV1v (ck_get kk_Mo_readTest 2 rfl) ml_Mo_247 (by omega) (Nat.le_of_ble_eq_true rfl) (by assumption) (Cv.to (h1 d i lf cl hd hi hlf (by omega)) ?_)
  rintro M₁ hq₁
  rcases hq₁ with ⟨j, lf2, sg, hr, rfl⟩ | ⟨j, lf2, sg, i2, lf3, hr, rfl⟩
  · obtain ⟨g1, g2, g3, g4, g5⟩ := psr_ok (N := N) hT.2.2.1 f 8 d i lf cl j lf2 sg (by omega) hr hi hlf
    rw [show ntk 8 = 1 from rfl] at g1
    rw [hr, pbd_y]
    refine Wp.mono (h2 d j lf2 (cl + sg.length) hd g2 g3 (by omega)) ?_
    rintro r₂ M₂ ⟨hr₂, hq₂⟩
    exact ⟨hr₂, hq₂.pb⟩
  · rw [hr, pbd_n]
    refine Wp.mono (mb_Test5 hT.1 (nI_m1 (hT.2.2.2.2.1 j)) (by omega)) ?_
    rintro r₂ M₂ ⟨hr₂, rfl⟩
    exact ⟨hr₂, rdQ.no⟩
end MRD
