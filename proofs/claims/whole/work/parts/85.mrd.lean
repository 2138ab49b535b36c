/-! ===== the model: a read ===== -/
section MRK
variable {g : Gl} {M : Mem} {o : Nat} {K A F : Nat → Int32} {P : Nat → Int64}
theorem ptX_lt (q l : Nat) : ptX q l < 25 := by
  unfold ptX
  by_cases hq : 24 < q * 1000 / l
  · rw [if_pos hq]; omega
  · rw [if_neg hq]; omega
theorem m_samples {t k c salt : Nat} {s : TS} (hM : MoAt (mT M) (mR M) o) (ht : t < 4) (hs : MoHas K P (92 * t) (25 * t) s) (hT : TOK s) (hk : k < 1000) (hsl : K 384 = nI salt) (hs2 : salt < 1000) (hh : hsh k salt < tLi s) : Cv g Y_Mo_samples 3 [.ref o, .int (nI t), .int (nI k), .int (nI c)] (wkM M o K P A F) (fun M2 => ∃ K2 P2, M2 = wkM M o K2 P2 A F ∧ MoHas K2 P2 (92 * t) (25 * t) (samT s k c salt) ∧ KUp K K2 (92 * t + 50) (92 * t + 59) ∧ ∀ x, x < 25 * t ∨ 25 * t + 25 ≤ x → P2 x = P x) := by
  have hM0 := hM
  obtain ⟨h1, h2, h3, h4, h5, h6⟩ := hs
  have hpl := posL_le (L := tSa s) (k := k)
  have hpx := ptX_lt (posL (tSa s) k) (tLi s)
  have hl6 := hT.2.1
  have hli := hT.2.2.2.1
  have hq : posL (tSa s) k * 1000 / tLi s ≤ 6000 := Nat.le_trans (Nat.div_le_self _ _) (by omega)
  have to0 := hM.1
  have rfkept := MoAt.r hM 1 rfl
  have tfkept := MoAt.t hM 1 rfl
  have rfparts := MoAt.r hM 2 rfl
  have tfparts := MoAt.t hM 2 rfl
  have hnz : ¬ (nI (tLi s)).toInt64 = 0 := nIl_ne0 (by omega) (by omega)
  -- behind the parts
  have fin : ∀ P2 : Nat → Int64, (∀ i, i < 25 → P2 (25 * t + i) = up1 (tPa s) (ptX (posL (tSa s) k) (tLi s)) (tPa s (ptX (posL (tSa s) k) (tLi s)) + ptV (nI c) (tLi s)) i) → (∀ x, x < 25 * t ∨ 25 * t + 25 ≤ x → P2 x = P x) → Wp g Y_Mo_samples 3 70 [some (.ref o), some (.int (nI t)), some (.int (nI k)), some (.int (nI c)), some (.int (nI (tLi s))), some (.int (nI (posL (tSa s) k))), some (.int (nI (posL (tSa s) k * 1000 / tLi s)))] [] (wkM M o K P2 A F) (fun r M2 => r = none ∧ ∃ K2 P2, M2 = wkM M o K2 P2 A F ∧ MoHas K2 P2 (92 * t) (25 * t) (samT s k c salt) ∧ KUp K K2 (92 * t + 50) (92 * t + 59) ∧ ∀ x, x < 25 * t ∨ 25 * t + 25 ≤ x → P2 x = P x) := by
    intro P2 hP1 hP2
    -- behind the key put first
    have fin2 : ∀ K2 : Nat → Int32, RowC K2 (92 * t + 50) (smp1 (tSa s) k) → KUp K K2 (92 * t + 50) (92 * t + 58) → Wp g Y_Mo_samples 3 92 [some (.ref o), some (.int (nI t)), some (.int (nI k)), some (.int (nI c)), some (.int (nI (tLi s))), some (.int (nI (posL (tSa s) k))), some (.int (nI (posL (tSa s) k * 1000 / tLi s)))] [] (wkM M o K2 P2 A F) (fun r M2 => r = none ∧ ∃ K2 P2, M2 = wkM M o K2 P2 A F ∧ MoHas K2 P2 (92 * t) (25 * t) (samT s k c salt) ∧ KUp K K2 (92 * t + 50) (92 * t + 59) ∧ ∀ x, x < 25 * t ∨ 25 * t + 25 ≤ x → P2 x = P x) := by
      intro K2 hR2 hU2
      have h7 := smp1_le (k := k) hl6
      have hky := smp1_keys hk hT.2.2.2.2.2.1
      have hmk : ∀ K3 : Nat → Int32, RowC K3 (92 * t + 50) (smp2 (smp1 (tSa s) k) salt) → K3 (92 * t + 58) = nI (lim2 (smp1 (tSa s) k) salt (tLi s)) → KUp K K3 (92 * t + 50) (92 * t + 59) → MoHas K3 P2 (92 * t) (25 * t) (samT s k c salt) := by
        intro K3 r1 r2 r3
        unfold samT
        rw [if_pos hh]
        refine ⟨h1.kept (fun x q1 q2 => r3 x (by have := hT.1; omega)), fun i hi => by rw [r3 _ (by omega)]; exact h2 i hi, r1, r2, hP1, h6.kept (fun x q1 q2 => r3 x (by omega))⟩
      by_cases h6' : (smp1 (tSa s) k).length ≤ 6
      · have e1 : smp2 (smp1 (tSa s) k) salt = smp1 (tSa s) k := if_pos h6'
        have e2 : lim2 (smp1 (tSa s) k) salt (tLi s) = tLi s := if_pos h6'
        refine wp_aload_n rfl (ck_get kk_Mo_samples 54 rfl) ?_
        refine wp_getR (ck_get kk_Mo_samples 55 rfl) fl_Mo_28 (by assumption) (by assumption) ?_
        refine wp_iload_n rfl (ck_get kk_Mo_samples 56 rfl) ?_
        refine wp_bipush (v := nI 50) (by decide) (ck_get kk_Mo_samples 57 rfl) ?_
        refine wp_cS2i (ck_get kk_Mo_samples 58 rfl) ml_Mo_142 (by omega) (Nat.le_of_ble_eq_true rfl) (Ci.to (m_at) ?_)
        rintro _ M1 ⟨rfl, eqm1⟩
        obtain rfl := eqm1.symm
        refine wp_ialdv (v := nI (smp1 (tSa s) k).length) (ck_get kk_Mo_samples 59 rfl) (by assumption) (ixk_nI (k := 92 * t + 50) (by omega) (by omega)) (by rw [wk_2]; exact hR2.1) ?_
        refine wp_bipush (v := nI 6) (by decide) (ck_get kk_Mo_samples 60 rfl) ?_
        first | refine wp_icmp_leN (t := 113) (ck_get kk_Mo_samples 61 rfl) (by decide) (by omega) (by omega) (fun hc105 => ?_) (fun hc105 => ?_) | refine wp_icmp_le (t := 113) (ck_get kk_Mo_samples 61 rfl) (by decide) (fun hc105 => ?_) (fun hc105 => ?_)
        · refine wp_return (ck_get kk_Mo_samples 65 rfl) rfl ⟨rfl, ?_⟩
          exact ⟨K2, P2, rfl, hmk K2 (by rw [e1]; exact hR2) (by rw [e2, hU2 _ (by omega)]; exact h4) (fun x hx => hU2 x (by omega)), fun x hx => hU2 x (by omega), hP2⟩
        · omega
      · have e1 : smp2 (smp1 (tSa s) k) salt = stayL (smp1 (tSa s) k) salt (mxF (smp1 (tSa s) k) salt (smp1 (tSa s) k).length) := if_neg h6'
        have e2 : lim2 (smp1 (tSa s) k) salt (tLi s) = mxF (smp1 (tSa s) k) salt (smp1 (tSa s) k).length := if_neg h6'
        refine wp_aload_n rfl (ck_get kk_Mo_samples 54 rfl) ?_
        refine wp_getR (ck_get kk_Mo_samples 55 rfl) fl_Mo_28 (by assumption) (by assumption) ?_
        refine wp_iload_n rfl (ck_get kk_Mo_samples 56 rfl) ?_
        refine wp_bipush (v := nI 50) (by decide) (ck_get kk_Mo_samples 57 rfl) ?_
        refine wp_cS2i (ck_get kk_Mo_samples 58 rfl) ml_Mo_142 (by omega) (Nat.le_of_ble_eq_true rfl) (Ci.to (m_at) ?_)
        rintro _ M1 ⟨rfl, eqm1⟩
        obtain rfl := eqm1.symm
        refine wp_ialdv (v := nI (smp1 (tSa s) k).length) (ck_get kk_Mo_samples 59 rfl) (by assumption) (ixk_nI (k := 92 * t + 50) (by omega) (by omega)) (by rw [wk_2]; exact hR2.1) ?_
        refine wp_bipush (v := nI 6) (by decide) (ck_get kk_Mo_samples 60 rfl) ?_
        first | refine wp_icmp_leN (t := 113) (ck_get kk_Mo_samples 61 rfl) (by decide) (by omega) (by omega) (fun hc105 => ?_) (fun hc105 => ?_) | refine wp_icmp_le (t := 113) (ck_get kk_Mo_samples 61 rfl) (by decide) (fun hc105 => ?_) (fun hc105 => ?_)
        · omega
        · refine wp_aload_n rfl (ck_get kk_Mo_samples 62 rfl) ?_
          refine wp_iload_n rfl (ck_get kk_Mo_samples 63 rfl) ?_
          refine wp_cV1v (ck_get kk_Mo_samples 64 rfl) ml_Mo_371 (by omega) (Nat.le_of_ble_eq_true rfl) (by assumption) (Cv.to (m_thins hM0 ht hR2 h7 hky (by rw [hU2 _ (by omega)]; exact hsl) hs2) ?_)
          rintro M₁ ⟨K3, rfl, hR3, hl3, hU3⟩
          refine wp_return (ck_get kk_Mo_samples 65 rfl) rfl ⟨rfl, ?_⟩
          have hU4 : KUp K K3 (92 * t + 50) (92 * t + 59) := fun x hx => (hU3 x hx).trans (hU2 x (by omega))
          exact ⟨K3, P2, rfl, hmk K3 (by rw [e1]; exact hR3) (by rw [e2]; exact hl3) hU4, hU4, hP2⟩
    by_cases h0 : posL (tSa s) k = 0
    · have e1 : smp1 (tSa s) k = k :: tSa s := by unfold smp1; rw [if_pos h0]
      refine wp_iload rfl (ck_get kk_Mo_samples 42 rfl) ?_
      first | refine wp_if_leN (t := 84) (ck_get kk_Mo_samples 43 rfl) (by decide) (by omega) (fun hc72 => ?_) (fun hc72 => ?_) | refine wp_if_le (t := 84) (ck_get kk_Mo_samples 43 rfl) (by decide) (fun hc72 => ?_) (fun hc72 => ?_)
      · refine wp_aload_n rfl (ck_get kk_Mo_samples 49 rfl) ?_
        refine wp_iload_n rfl (ck_get kk_Mo_samples 50 rfl) ?_
        refine wp_bipush (v := nI 50) (by decide) (ck_get kk_Mo_samples 51 rfl) ?_
        refine wp_iload_n rfl (ck_get kk_Mo_samples 52 rfl) ?_
        refine wp_cV3v (ck_get kk_Mo_samples 53 rfl) ml_Mo_360 (by omega) (Nat.le_of_ble_eq_true rfl) (by assumption) (Cv.to (m_first (L := tSa s) (by exact hM0) (by rw [wk_2]; exact h3) (by omega)) ?_)
        rintro M₁ ⟨K2, rfl, hR2, hU2⟩
        rw [wk_K]
        rw [wk_2] at hU2
        exact fin2 K2 (by rw [e1]; exact hR2) (fun x hx => hU2 x (by omega))
      · omega
    · have e1 : smp1 (tSa s) k = k :: (tSa s).eraseIdx (posL (tSa s) k - 1) := by unfold smp1; rw [if_neg h0]
      have hel := eraseIdx_len (L := tSa s) (p := posL (tSa s) k - 1) (by omega)
      refine wp_iload rfl (ck_get kk_Mo_samples 42 rfl) ?_
      first | refine wp_if_leN (t := 84) (ck_get kk_Mo_samples 43 rfl) (by decide) (by omega) (fun hc72 => ?_) (fun hc72 => ?_) | refine wp_if_le (t := 84) (ck_get kk_Mo_samples 43 rfl) (by decide) (fun hc72 => ?_) (fun hc72 => ?_)
      · omega
      · refine wp_aload_n rfl (ck_get kk_Mo_samples 44 rfl) ?_
        refine wp_iload_n rfl (ck_get kk_Mo_samples 45 rfl) ?_
        refine wp_bipush (v := nI 50) (by decide) (ck_get kk_Mo_samples 46 rfl) ?_
        refine wp_iload rfl (ck_get kk_Mo_samples 47 rfl) ?_
        refine wp_cV3v (ck_get kk_Mo_samples 48 rfl) ml_Mo_356 (by omega) (Nat.le_of_ble_eq_true rfl) (by assumption) (Cv.to (m_out (L := tSa s) (by exact hM0) (by rw [wk_2]; exact h3) (by omega) hpl (by omega)) ?_)
        rintro M₁ ⟨K2, rfl, hR2, hU2⟩
        rw [wk_K]
        rw [wk_2] at hU2
        refine wp_aload_n rfl (ck_get kk_Mo_samples 49 rfl) ?_
        refine wp_iload_n rfl (ck_get kk_Mo_samples 50 rfl) ?_
        refine wp_bipush (v := nI 50) (by decide) (ck_get kk_Mo_samples 51 rfl) ?_
        refine wp_iload_n rfl (ck_get kk_Mo_samples 52 rfl) ?_
        refine wp_cV3v (ck_get kk_Mo_samples 53 rfl) ml_Mo_360 (by omega) (Nat.le_of_ble_eq_true rfl) (by assumption) (Cv.to (m_first (L := (tSa s).eraseIdx (posL (tSa s) k - 1)) (by exact hM0) (by rw [wk_2]; exact hR2) (by omega)) ?_)
        rintro M₁ ⟨K3, rfl, hR3, hU3⟩
        rw [wk_K]
        rw [wk_2] at hU3
        exact fin2 K3 (by rw [e1]; exact hR3) (fun x hx => (hU3 x (by omega)).trans (hU2 x (by omega)))
  refine cw_entry 3 pf_Mo_samples rfl ?_
  refine wp_aload_n rfl (ck_get kk_Mo_samples 0 rfl) ?_
  refine wp_getR (ck_get kk_Mo_samples 1 rfl) fl_Mo_28 (by assumption) (by assumption) ?_
  refine wp_iload_n rfl (ck_get kk_Mo_samples 2 rfl) ?_
  refine wp_bipush (v := nI 58) (by decide) (ck_get kk_Mo_samples 3 rfl) ?_
  refine wp_cS2i (ck_get kk_Mo_samples 4 rfl) ml_Mo_142 (by omega) (Nat.le_of_ble_eq_true rfl) (Ci.to (m_at) ?_)
  rintro _ M1 ⟨rfl, eqm1⟩
  obtain rfl := eqm1.symm
  refine wp_ialdv (v := nI (tLi s)) (ck_get kk_Mo_samples 5 rfl) (by assumption) (ixk_nI (k := 92 * t + 58) (by omega) (by omega)) (by rw [wk_2]; exact h4) ?_
  refine wp_istore (ck_get kk_Mo_samples 6 rfl) (by decide) rfl ?_
  refine wp_aload_n rfl (ck_get kk_Mo_samples 7 rfl) ?_
  refine wp_iload_n rfl (ck_get kk_Mo_samples 8 rfl) ?_
  refine wp_bipush (v := nI 50) (by decide) (ck_get kk_Mo_samples 9 rfl) ?_
  refine wp_iload_n rfl (ck_get kk_Mo_samples 10 rfl) ?_
  refine wp_cV3i (ck_get kk_Mo_samples 11 rfl) ml_Mo_159 (by omega) (Nat.le_of_ble_eq_true rfl) (by assumption) (Ci.to (m_place (L := tSa s) (by exact hM0) (by rw [wk_2]; exact h3) (by omega)) ?_)
  rintro _ M1 ⟨rfl, eqm1⟩
  obtain rfl := eqm1.symm
  refine wp_istore (ck_get kk_Mo_samples 12 rfl) (by decide) rfl ?_
  refine wp_iload rfl (ck_get kk_Mo_samples 13 rfl) ?_
  refine wp_sipush (v := nI 1000) (by decide) (ck_get kk_Mo_samples 14 rfl) ?_
  first | refine wp_imulN (ck_get kk_Mo_samples 15 rfl) ?_ | refine wp_imul (ck_get kk_Mo_samples 15 rfl) ?_
  refine wp_iload rfl (ck_get kk_Mo_samples 16 rfl) ?_
  first | refine wp_idivN (ck_get kk_Mo_samples 17 rfl) (by omega) (by omega) (by omega) ?_ | refine wp_idiv (by decide) (ck_get kk_Mo_samples 17 rfl) ?_
  refine wp_istore (ck_get kk_Mo_samples 18 rfl) (by decide) rfl ?_
  refine wp_aload_n rfl (ck_get kk_Mo_samples 19 rfl) ?_
  refine wp_getR (ck_get kk_Mo_samples 20 rfl) fl_Mo_31 (by assumption) (by assumption) ?_
  refine wp_bipush (v := nI 25) (by decide) (ck_get kk_Mo_samples 21 rfl) ?_
  refine wp_iload_n rfl (ck_get kk_Mo_samples 22 rfl) ?_
  first | refine wp_imulN (ck_get kk_Mo_samples 23 rfl) ?_ | refine wp_imul (ck_get kk_Mo_samples 23 rfl) ?_
  refine wp_iload rfl (ck_get kk_Mo_samples 24 rfl) ?_
  refine wp_bipush (v := nI 24) (by decide) (ck_get kk_Mo_samples 25 rfl) ?_
  first | refine wp_icmp_leN (t := 53) (ck_get kk_Mo_samples 26 rfl) (by decide) (by omega) (by omega) (fun hc46 => ?_) (fun hc46 => ?_) | refine wp_icmp_le (t := 53) (ck_get kk_Mo_samples 26 rfl) (by decide) (fun hc46 => ?_) (fun hc46 => ?_)
  · refine wp_iload rfl (ck_get kk_Mo_samples 29 rfl) ?_
    have e : posL (tSa s) k * 1000 / tLi s = ptX (posL (tSa s) k) (tLi s) := by unfold ptX; rw [if_neg (by omega)]
    rw [show nI (posL (tSa s) k * 1000 / tLi s) = nI (ptX (posL (tSa s) k) (tLi s)) by rw [e]]
    first | refine wp_iaddN (ck_get kk_Mo_samples 30 rfl) ?_ | refine wp_iadd (ck_get kk_Mo_samples 30 rfl) ?_
    first | refine wp_dup2l rfl (ck_get kk_Mo_samples 31 rfl) ?_ | refine wp_dup2 rfl rfl (ck_get kk_Mo_samples 31 rfl) ?_
    refine wp_laldv (v := tPa s (ptX (posL (tSa s) k) (tLi s))) (ck_get kk_Mo_samples 32 rfl) (by assumption) (ixk_nI (k := 25 * t + ptX (posL (tSa s) k) (tLi s)) (by omega) (by omega)) (by rw [wk_J]; exact h5 _ hpx) ?_
    refine wp_ldc2 kl_Mo_369 (ck_get kk_Mo_samples 33 rfl) ?_
    refine wp_iload_n rfl (ck_get kk_Mo_samples 34 rfl) ?_
    refine wp_i2l (ck_get kk_Mo_samples 35 rfl) ?_
    refine wp_lmul (ck_get kk_Mo_samples 36 rfl) ?_
    refine wp_iload rfl (ck_get kk_Mo_samples 37 rfl) ?_
    refine wp_i2l (ck_get kk_Mo_samples 38 rfl) ?_
    refine wp_ldiv hnz (ck_get kk_Mo_samples 39 rfl) ?_
    refine wp_ladd (ck_get kk_Mo_samples 40 rfl) ?_
    refine wp_last (ck_get kk_Mo_samples 41 rfl) (by assumption) (ixk_nI (k := 25 * t + ptX (posL (tSa s) k) (tLi s)) (by omega) (by omega)) ?_
    rw [wk_sP]
    rw [← e]
    refine fin _ (fun i hi => ?_) (fun x hx => up1_ne (by omega))
    rw [e]
    by_cases hi2 : i = ptX (posL (tSa s) k) (tLi s)
    · rw [hi2, up1_eq, up1_eq]; rfl
    · rw [up1_ne hi2, up1_ne (by omega), h5 i hi]
  · refine wp_iconst (v := nI 0) (by decide) (ck_get kk_Mo_samples 27 rfl) ?_
    refine wp_goto (t := 55) (ck_get kk_Mo_samples 28 rfl) (by decide) ?_
    have e : ptX (posL (tSa s) k) (tLi s) = 0 := by unfold ptX; rw [if_pos (by omega)]
    rw [show nI 0 = nI (ptX (posL (tSa s) k) (tLi s)) by rw [e]]
    first | refine wp_iaddN (ck_get kk_Mo_samples 30 rfl) ?_ | refine wp_iadd (ck_get kk_Mo_samples 30 rfl) ?_
    first | refine wp_dup2l rfl (ck_get kk_Mo_samples 31 rfl) ?_ | refine wp_dup2 rfl rfl (ck_get kk_Mo_samples 31 rfl) ?_
    refine wp_laldv (v := tPa s (ptX (posL (tSa s) k) (tLi s))) (ck_get kk_Mo_samples 32 rfl) (by assumption) (ixk_nI (k := 25 * t + ptX (posL (tSa s) k) (tLi s)) (by omega) (by omega)) (by rw [wk_J]; exact h5 _ hpx) ?_
    refine wp_ldc2 kl_Mo_369 (ck_get kk_Mo_samples 33 rfl) ?_
    refine wp_iload_n rfl (ck_get kk_Mo_samples 34 rfl) ?_
    refine wp_i2l (ck_get kk_Mo_samples 35 rfl) ?_
    refine wp_lmul (ck_get kk_Mo_samples 36 rfl) ?_
    refine wp_iload rfl (ck_get kk_Mo_samples 37 rfl) ?_
    refine wp_i2l (ck_get kk_Mo_samples 38 rfl) ?_
    refine wp_ldiv hnz (ck_get kk_Mo_samples 39 rfl) ?_
    refine wp_ladd (ck_get kk_Mo_samples 40 rfl) ?_
    refine wp_last (ck_get kk_Mo_samples 41 rfl) (by assumption) (ixk_nI (k := 25 * t + ptX (posL (tSa s) k) (tLi s)) (by omega) (by omega)) ?_
    rw [wk_sP]
    refine fin _ (fun i hi => ?_) (fun x hx => up1_ne (by omega))
    by_cases hi2 : i = ptX (posL (tSa s) k) (tLi s)
    · rw [hi2, up1_eq, up1_eq]; rfl
    · rw [up1_ne hi2, up1_ne (by omega), h5 i hi]
/-- what a law in force tells of words -/
def TlR (K : Nat → Int32) (res : (Nat → Int32) → Int32 × Int32) : Prop := (K 387 = -1 ∧ ∀ V, res V = (nI 1, nI 0)) ∨ ∃ t R cn nc, K 387 = nI t ∧ t < 7 ∧ LawR K t R cn nc ∧ ∀ V, res V = wgF R cn V nc
theorem TlR.kept {K K2 : Nat → Int32} {res : (Nat → Int32) → Int32 × Int32} (h : TlR K res) (hK : ∀ x, 369 ≤ x → K2 x = K x) : TlR K2 res := by
  rcases h with ⟨h1, h2⟩ | ⟨t, R, cn, nc, h1, h2, h3, h4⟩
  · exact Or.inl ⟨by rw [hK _ (by omega)]; exact h1, h2⟩
  · exact Or.inr ⟨t, R, cn, nc, by rw [hK _ (by omega)]; exact h1, h2, h3.kept h2 (fun x hx => hK x (by omega)) rfl, h4⟩
/-- the words of a law -/
def VOK (V : Nat → Int32) (t k r fr tm md : Nat) : Prop := V 0 = nI t ∧ V 1 = nI k ∧ V 2 = nI r ∧ V 3 = nI fr ∧ V 4 = nI tm ∧ V 5 = nI md
def cntL (L : List Nat) (k : Nat) : Nat := cntI (fun j => nI (L.getD j 0)) (nI k) L.length
theorem VOK.ask {V : Nat → Int32} {t k r fr tm md : Nat} {B : Nat → Int32} (h : VOK V t k r fr tm md) : ∀ c, 7 ≤ c → c ≤ 12 → V (wIx false c 0) = akA B t (nI k) r fr (nI md) (nI tm) (c - 7) := by
  obtain ⟨h0, h1, h2, h3, h4, h5⟩ := h
  intro c hc1 hc2
  rcases (show c = 7 ∨ c = 8 ∨ c = 9 ∨ c = 10 ∨ c = 11 ∨ c = 12 by omega) with rfl | rfl | rfl | rfl | rfl | rfl
  · rw [show wIx false 7 0 = 0 from rfl, h0]; simp [up1]
  · rw [show wIx false 8 0 = 1 from rfl, h1]; simp [up1]
  · rw [show wIx false 9 0 = 2 from rfl, h2]; simp [up1]
  · rw [show wIx false 10 0 = 3 from rfl, h3]; simp [up1]
  · rw [show wIx false 11 0 = 5 from rfl, h5]; simp [up1]
  · rw [show wIx false 12 0 = 4 from rfl, h4]; simp [up1]
theorem VOK.nn {V : Nat → Int32} {t k md : Nat} {ws : WS} (h : VOK V t k (cntL (tRe (ws.2 t)) k) (posL (tSt (ws.2 t)) k) ws.1 md) (hT : WOK ws) (ht : t < 4) (hk : k < 1000) (hmx : md ≤ 9) : ∀ u, u < 6 → -1 ≤ (V u).toInt := by
  obtain ⟨h0, h1, h2, h3, h4, h5⟩ := h
  have q1 : cntL (tRe (ws.2 t)) k ≤ (tRe (ws.2 t)).length := cntI_le
  have q2 := posL_le (L := tSt (ws.2 t)) (k := k)
  have q3 := hT.1
  have q4 := (hT.2 t ht).1
  have q5 := (hT.2 t ht).2.2.1
  intro u hu
  rcases (show u = 0 ∨ u = 1 ∨ u = 2 ∨ u = 3 ∨ u = 4 ∨ u = 5 by omega) with rfl | rfl | rfl | rfl | rfl | rfl
  · rw [h0, nI_toInt (by omega)]; omega
  · rw [h1, nI_toInt (by omega)]; omega
  · rw [h2, nI_toInt (by omega)]; omega
  · rw [h3, nI_toInt (by omega)]; omega
  · rw [h4, nI_toInt (by omega)]; omega
  · rw [h5, nI_toInt (by omega)]; omega
theorem m_tell {hd t k md : Nat} {ws : WS} {V : Nat → Int32} {res : (Nat → Int32) → Int32 × Int32} {B : Nat → Int32} (hM : MoAt (mT M) (mR M) o) (hR : TlR K res) (hV : VOK V t k (cntL (tRe (ws.2 t)) k) (posL (tSt (ws.2 t)) k) ws.1 md) (hA : A = akA B t (nI k) (cntL (tRe (ws.2 t)) k) (posL (tSt (ws.2 t)) k) (nI md) (nI ws.1)) (hVn : ∀ u, u < 6 → -1 ≤ (V u).toInt) (hb : ∃ b, F 27 = bI b) (hh : hd = 1 ∨ hd = 2) : Ci g Y_Mo_tells 100 [.ref o, .int (nI hd), .int (nI (2 - hd))] (wkM M o K P A F) (fun x M2 => x = cmpW hd (res V) ∧ ∃ F2, M2 = wkM M o K P A F2 ∧ FrO F F2) := by
  rcases hR with ⟨h1, h2⟩ | ⟨q, R, cn, nc, h1, h2, h3, h4⟩
  · refine (m_tellsN (g := g) (M := wkM M o K P A F) (hd := hd) (w := nI (2 - hd)) hM (by rw [wk_2]; exact h1)).to (fun x M2 ⟨e1, e2⟩ => ⟨?_, F, e2, fun k _ => rfl, hb⟩)
    rw [e1, h2 V]
    rcases hh with rfl | rfl <;> rfl
  · rw [h4 V]
    refine (m_tells (g := g) (M := wkM M o K P A F) (hd := hd) (V := V) (P := R) (cn := cn) (nc := nc) hM (by rw [wk_2]; exact h1) h2 (by rw [wk_2]; exact h3) ?_ hVn (by rw [wk_o]; exact hb) hh).to (fun x M2 ⟨e1, F2, e2, e3⟩ => ⟨e1, F2, ?_, ?_⟩)
    · rw [wk_15, hA]
      exact hV.ask
    · rw [e2, wk_F]
    · rw [wk_o] at e3; exact e3
theorem m_ask {t k md : Nat} {ws : WS} (hM : MoAt (mT M) (mR M) o) (hs : MwHas K P 0 0 ws) (hT : WOK ws) (ht : t < 4) (hmd : K 383 = nI md) : Cv g Y_Mo_setsAsked 2 [.ref o, .int (nI t), .int (nI k)] (wkM M o K P A F) (fun M2 => M2 = wkM M o K P (akA A t (nI k) (cntL (tRe (ws.2 t)) k) (posL (tSt (ws.2 t)) k) (nI md) (nI ws.1)) F) := by
  have hs1 := hs.2 t ht
  rw [Nat.zero_add, Nat.zero_add] at hs1
  obtain ⟨h1, h2, h3, h4, h5, h6⟩ := hs1
  have q := m_setsAsked (g := g) (M := wkM M o K P A F) (t := t) (key := nI k) (sn := (tSt (ws.2 t)).length) (rn := (tRe (ws.2 t)).length) hM ht (by rw [wk_2]; exact h6.1) (hT.2 t ht).2.2.1 (by rw [wk_2]; exact h1.1) (hT.2 t ht).1
  rw [wk_2, wk_15] at q
  have e1 : cntI (fun j => K (92 * t + 60 + j)) (nI k) (tRe (ws.2 t)).length = cntL (tRe (ws.2 t)) k := cntI_congr (fun i hi => h6.2 i hi)
  have e2 : fnd (fun j => K (92 * t + 1 + j)) (tSt (ws.2 t)).length (nI k) = posL (tSt (ws.2 t)) k := h1.2.fnd
  have e3 : K 368 = nI ws.1 := by have := hs.1; rwa [Nat.zero_add] at this
  rw [e1, e2, e3, hmd, wk_A] at q
  exact q
theorem m_costsFor {t k md : Nat} {ws : WS} {V : Nat → Int32} {res : (Nat → Int32) → Int32 × Int32} (hM : MoAt (mT M) (mR M) o) (hs : MwHas K P 0 0 ws) (hT : WOK ws) (ht : t < 4) (hk : k < 1000) (hmd : K 383 = nI md) (hmx : md ≤ 9) (hR : TlR K res) (hV : VOK V t k (cntL (tRe (ws.2 t)) k) (posL (tSt (ws.2 t)) k) ws.1 md) (hb : ∃ b, F 27 = bI b) : Ci g Y_Mo_costsFor 101 [.ref o, .int (nI t), .int (nI k)] (wkM M o K P A F) (fun x M2 => x = (res V).1 ∧ ∃ A2 F2, M2 = wkM M o K P A2 F2 ∧ FrO F F2) := by
  have to0 := hM.1
  refine cw_entry 0 pf_Mo_costsFor rfl ?_
  refine wp_aload_n rfl (ck_get kk_Mo_costsFor 0 rfl) ?_
  refine wp_iload_n rfl (ck_get kk_Mo_costsFor 1 rfl) ?_
  refine wp_iload_n rfl (ck_get kk_Mo_costsFor 2 rfl) ?_
  refine wp_cV2v (ck_get kk_Mo_costsFor 3 rfl) ml_Mo_350 (by omega) (Nat.le_of_ble_eq_true rfl) (by assumption) (Cv.to (m_ask hM hs hT ht hmd) ?_)
  rintro M₁ rfl
  refine wp_aload_n rfl (ck_get kk_Mo_costsFor 4 rfl) ?_
  refine wp_iconst (v := nI 1) (by decide) (ck_get kk_Mo_costsFor 5 rfl) ?_
  refine wp_iconst (v := nI 1) (by decide) (ck_get kk_Mo_costsFor 6 rfl) ?_
  refine wp_cV2i (ck_get kk_Mo_costsFor 7 rfl) ml_Mo_353 (by omega) (Nat.le_of_ble_eq_true rfl) (by assumption) (Ci.to (m_tell (hd := 1) (ws := ws) hM hR hV rfl (hV.nn hT ht hk hmx) hb (Or.inl rfl)) ?_)
  rintro x M₂ ⟨hx, F2, hM2, hF⟩
  refine wp_ireturn (ck_get kk_Mo_costsFor 8 rfl) rfl rfl ⟨_, rfl, ?_⟩
  exact ⟨hx, _, F2, hM2, hF⟩
theorem m_isBarred {t k md : Nat} {ws : WS} {V : Nat → Int32} {res : (Nat → Int32) → Int32 × Int32} {br : Bool} (hM : MoAt (mT M) (mR M) o) (hs : MwHas K P 0 0 ws) (hT : WOK ws) (ht : t < 4) (hk : k < 1000) (hmd : K 383 = nI md) (hmx : md ≤ 9) (hR : TlR K res) (hV : VOK V t k (cntL (tRe (ws.2 t)) k) (posL (tSt (ws.2 t)) k) ws.1 md) (hb : ∃ b, F 27 = bI b) (hbr : (res V).2 = bI br) : Ci g Y_Mo_isBarred 101 [.ref o, .int (nI t), .int (nI k)] (wkM M o K P A F) (fun x M2 => x = bI br ∧ ∃ A2 F2, M2 = wkM M o K P A2 F2 ∧ FrO F F2) := by
  have to0 := hM.1
  refine cw_entry 0 pf_Mo_isBarred rfl ?_
  refine wp_aload_n rfl (ck_get kk_Mo_isBarred 0 rfl) ?_
  refine wp_iload_n rfl (ck_get kk_Mo_isBarred 1 rfl) ?_
  refine wp_iload_n rfl (ck_get kk_Mo_isBarred 2 rfl) ?_
  refine wp_cV2v (ck_get kk_Mo_isBarred 3 rfl) ml_Mo_350 (by omega) (Nat.le_of_ble_eq_true rfl) (by assumption) (Cv.to (m_ask hM hs hT ht hmd) ?_)
  rintro M₁ rfl
  refine wp_aload_n rfl (ck_get kk_Mo_isBarred 4 rfl) ?_
  refine wp_iconst (v := nI 2) (by decide) (ck_get kk_Mo_isBarred 5 rfl) ?_
  refine wp_iconst (v := nI 0) (by decide) (ck_get kk_Mo_isBarred 6 rfl) ?_
  refine wp_cV2i (ck_get kk_Mo_isBarred 7 rfl) ml_Mo_353 (by omega) (Nat.le_of_ble_eq_true rfl) (by assumption) (Ci.to (m_tell (hd := 2) (ws := ws) hM hR hV rfl (hV.nn hT ht hk hmx) hb (Or.inr rfl)) ?_)
  rintro x M₂ ⟨hx, F2, hM2, hF⟩
  refine wp_iconst (v := nI 1) (by decide) (ck_get kk_Mo_isBarred 8 rfl) ?_
  refine wp_icmp_ne (t := 20) (ck_get kk_Mo_isBarred 9 rfl) (by decide) (fun hc13 => ?_) (fun hc13 => ?_)
  · refine wp_iconst (v := nI 0) (by decide) (ck_get kk_Mo_isBarred 12 rfl) ?_
    refine wp_ireturn (ck_get kk_Mo_isBarred 13 rfl) rfl rfl ⟨_, rfl, ?_⟩
    refine ⟨?_, _, F2, hM2, hF⟩
    have hx2 : x = bI br := hx.trans hbr
    cases br with
    | true => exact absurd hx2 hc13
    | false => rfl
  · refine wp_iconst (v := nI 1) (by decide) (ck_get kk_Mo_isBarred 10 rfl) ?_
    refine wp_goto (t := 21) (ck_get kk_Mo_isBarred 11 rfl) (by decide) ?_
    refine wp_ireturn (ck_get kk_Mo_isBarred 13 rfl) rfl rfl ⟨_, rfl, ?_⟩
    refine ⟨?_, _, F2, hM2, hF⟩
    have hx2 : x = bI br := hx.trans hbr
    cases br with
    | true => rfl
    | false => rw [hc13] at hx2; exact absurd hx2 (by decide)
end MRK
