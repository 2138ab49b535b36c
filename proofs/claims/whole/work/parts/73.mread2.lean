/-! ===== the model reads tokens: parts, plain tests, all together ===== -/
section MRE
variable {g : Gl} {M : Mem} {o N : Nat} {tc tv pl : Nat → Nat} {od : Bool} {f i lf : Nat} {b : Int32}
theorem mb_Part {d n : Nat} (hM : MoAt (mT M) (mR M) o) (hb : ¬ b = -1) (hn : 2 ≤ n) : Cv g Y_Mo_readPart n [.ref o, .int (nI d)] (rdM M o i lf b) (fun M2 => M2 = rdM M o i lf b) := by
  have to0 := hM.1
  refine cw_entry 1 pf_Mo_readPart rfl ?_
  refine wp_aload_n rfl (ck_get kk_Mo_readPart 0 rfl) ?_
  refine wp_cV0i (ck_get kk_Mo_readPart 1 rfl) ml_Mo_204 (by omega) (Nat.le_of_ble_eq_true rfl) (by assumption) (Ci.to (m_fineN hM hb) ?_)
  rintro _ M1 ⟨rfl, eqm1⟩
  obtain rfl := eqm1.symm
  first | refine wp_if_neN (t := 8) (ck_get kk_Mo_readPart 2 rfl) (by decide) (by omega) (fun hc4 => ?_) (fun hc4 => ?_) | refine wp_if_ne (t := 8) (ck_get kk_Mo_readPart 2 rfl) (by decide) (fun hc4 => ?_) (fun hc4 => ?_)
  · omega
  · refine wp_return (ck_get kk_Mo_readPart 3 rfl) rfl ⟨rfl, ?_⟩
    rfl
theorem mb_Term {d n : Nat} (hM : MoAt (mT M) (mR M) o) (hb : ¬ b = -1) (hn : 4 ≤ n) : Cv g Y_Mo_readTerm n [.ref o, .int (nI d)] (rdM M o i lf b) (fun M2 => M2 = rdM M o i lf b) := by
  have to0 := hM.1
  refine cw_entry 0 pf_Mo_readTerm rfl ?_
  refine wp_aload_n rfl (ck_get kk_Mo_readTerm 0 rfl) ?_
  refine wp_iload_n rfl (ck_get kk_Mo_readTerm 1 rfl) ?_
  refine wp_cV1v (ck_get kk_Mo_readTerm 2 rfl) ml_Mo_260 (by omega) (Nat.le_of_ble_eq_true rfl) (by assumption) (Cv.to (mb_Part (n := n - 1) hM hb (by omega)) ?_)
  rintro M₁ rfl
  exact mb_Term5 hM hb (by omega)
theorem mb_Sum {d n : Nat} (hM : MoAt (mT M) (mR M) o) (hb : ¬ b = -1) (hn : 6 ≤ n) : Cv g Y_Mo_readSum n [.ref o, .int (nI d)] (rdM M o i lf b) (fun M2 => M2 = rdM M o i lf b) := by
  have to0 := hM.1
  refine cw_entry 0 pf_Mo_readSum rfl ?_
  refine wp_aload_n rfl (ck_get kk_Mo_readSum 0 rfl) ?_
  refine wp_iload_n rfl (ck_get kk_Mo_readSum 1 rfl) ?_
  refine wp_cV1v (ck_get kk_Mo_readSum 2 rfl) ml_Mo_257 (by omega) (Nat.le_of_ble_eq_true rfl) (by assumption) (Cv.to (mb_Term (n := n - 1) hM hb (by omega)) ?_)
  rintro M₁ rfl
  exact mb_Sum5 hM hb (by omega)
/-- a part that is no bracket -/
theorem mr_Part2 {d cl : Nat} (hT : TkOK M o N tc tv pl od) (hi : i ≤ N) (hlf : lf ≤ 50) (hb : ¬ tc i = 191) :
    Wp g Y_Mo_readPart (20 * (9 - d) + 7) 74 [some (.ref o), some (.int (nI d)), some (.int (nI (tc i)))] [] (rdM M o i lf (-1)) (fun r M2 => r = none ∧ rdQ M o pl (if tc i = 50 ∧ tv i ≤ 1000 then (if 50 ≤ lf then (false, i, lf, []) else (true, i + 1, lf + 1, [nI 1, nI (tv i)]))
      else if isLW od (tc i) = true then
        (if 50 ≤ lf then (false, i, lf, [])
        else if od = true ∧ 15 ≤ tc i then (if tc (i + 1) = 50 ∧ tv (i + 1) < 4 then (true, i + 2, lf + 1, [nI 2, nI (wIx od (tc i) (tv (i + 1)))]) else (false, i + 1, lf + 1, []))
        else (true, i + 1, lf + 1, [nI 2, nI (wIx od (tc i) 0)]))
      else (false, i, lf, [])) M2) := by
  have hT0 := hT
  obtain ⟨hM, hN, hN2, hc4, hpl, hTk, h13, h11, h12⟩ := hT
  obtain ⟨q1, ⟨v, q2, q3, q4⟩, q5⟩ := hTk i hi
  have hM0 := hM
  have hci := hc4 i
  have hpi := hpl i
  have to0 := hM.1
  have rfcode := MoAt.r hM 11 rfl
  have tfcode := MoAt.t hM 11 rfl
  have rfvalue := MoAt.r hM 12 rfl
  have tfvalue := MoAt.t hM 12 rfl
  have e11 : ∀ i lf b, mI (rdM M o i lf b) o 11 = nI (if od = true then 12 else 7) := fun i lf b => by rw [rdM_f (by omega)]; exact h11
  have e12 : ∀ i lf b, mI (rdM M o i lf b) o 12 = nI (if od = true then 16 else 12) := fun i lf b => by rw [rdM_f (by omega)]; exact h12
  have e13 : ∀ i lf b, mI (rdM M o i lf b) o 13 = bI od := fun i lf b => by rw [rdM_f (by omega)]; exact h13
  -- a leaf: it is one too many
  have l50 : 50 ≤ lf → Wp g Y_Mo_readPart (20 * (9 - d) + 7) 111 [some (.ref o), some (.int (nI d)), some (.int (nI (tc i)))] [] (rdM M o i lf (-1)) (fun r M2 => r = none ∧ rdQ M o pl (false, i, lf, []) M2) := by
    intro h5
    have h6 : lf = 50 := by omega
    subst h6
    cases od with
    | false =>
      refine wp_aload_n rfl (ck_get kk_Mo_readPart 57 rfl) ?_
      refine wp_cV0v (ck_get kk_Mo_readPart 58 rfl) ml_Mo_269 (by omega) (Nat.le_of_ble_eq_true rfl) (by assumption) (Cv.to (m_leafN hT0 hi) ?_)
      rintro M₁ rfl
      refine wp_aload_n rfl (ck_get kk_Mo_readPart 59 rfl) ?_
      refine wp_getIv (v := nI 0) (ck_get kk_Mo_readPart 60 rfl) fl_Mo_237 (by assumption) (e13 _ _ _) ?_
      first | refine wp_if_eqN (t := 147) (ck_get kk_Mo_readPart 61 rfl) (by decide) (by omega) (fun hc119 => ?_) (fun hc119 => ?_) | refine wp_if_eq (t := 147) (ck_get kk_Mo_readPart 61 rfl) (by decide) (fun hc119 => ?_) (fun hc119 => ?_)
      · refine wp_return (ck_get kk_Mo_readPart 75 rfl) rfl ⟨rfl, ?_⟩
        exact rdQ.no
      · omega
    | true =>
      refine wp_aload_n rfl (ck_get kk_Mo_readPart 57 rfl) ?_
      refine wp_cV0v (ck_get kk_Mo_readPart 58 rfl) ml_Mo_269 (by omega) (Nat.le_of_ble_eq_true rfl) (by assumption) (Cv.to (m_leafN hT0 hi) ?_)
      rintro M₁ rfl
      refine wp_aload_n rfl (ck_get kk_Mo_readPart 59 rfl) ?_
      refine wp_getIv (v := nI 1) (ck_get kk_Mo_readPart 60 rfl) fl_Mo_237 (by assumption) (e13 _ _ _) ?_
      first | refine wp_if_eqN (t := 147) (ck_get kk_Mo_readPart 61 rfl) (by decide) (by omega) (fun hc119 => ?_) (fun hc119 => ?_) | refine wp_if_eq (t := 147) (ck_get kk_Mo_readPart 61 rfl) (by decide) (fun hc119 => ?_) (fun hc119 => ?_)
      · omega
      · refine wp_iload_n rfl (ck_get kk_Mo_readPart 62 rfl) ?_
        refine wp_bipush (v := nI 15) (by decide) (ck_get kk_Mo_readPart 63 rfl) ?_
        first | refine wp_icmp_eqN (t := 134) (ck_get kk_Mo_readPart 64 rfl) (by decide) (by omega) (by omega) (fun hc125 => ?_) (fun hc125 => ?_) | refine wp_icmp_eq (t := 134) (ck_get kk_Mo_readPart 64 rfl) (by decide) (fun hc125 => ?_) (fun hc125 => ?_)
        · refine wp_aload_n rfl (ck_get kk_Mo_readPart 68 rfl) ?_
          refine wp_iconst (v := nI 0) (by decide) (ck_get kk_Mo_readPart 69 rfl) ?_
          refine wp_iconst (v := nI 3) (by decide) (ck_get kk_Mo_readPart 70 rfl) ?_
          refine wp_cV2v (ck_get kk_Mo_readPart 71 rfl) ml_Mo_233 (by omega) (Nat.le_of_ble_eq_true rfl) (by assumption) (Cv.to (m_numB hM0 (nI_m1 hpi)) ?_)
          rintro M₁ rfl
          refine wp_goto (t := 147) (ck_get kk_Mo_readPart 72 rfl) (by decide) ?_
          refine wp_return (ck_get kk_Mo_readPart 75 rfl) rfl ⟨rfl, ?_⟩
          exact rdQ.no
        · refine wp_iload_n rfl (ck_get kk_Mo_readPart 65 rfl) ?_
          refine wp_bipush (v := nI 16) (by decide) (ck_get kk_Mo_readPart 66 rfl) ?_
          first | refine wp_icmp_neN (t := 147) (ck_get kk_Mo_readPart 67 rfl) (by decide) (by omega) (by omega) (fun hc131 => ?_) (fun hc131 => ?_) | refine wp_icmp_ne (t := 147) (ck_get kk_Mo_readPart 67 rfl) (by decide) (fun hc131 => ?_) (fun hc131 => ?_)
          · refine wp_return (ck_get kk_Mo_readPart 75 rfl) rfl ⟨rfl, ?_⟩
            exact rdQ.no
          · refine wp_aload_n rfl (ck_get kk_Mo_readPart 68 rfl) ?_
            refine wp_iconst (v := nI 0) (by decide) (ck_get kk_Mo_readPart 69 rfl) ?_
            refine wp_iconst (v := nI 3) (by decide) (ck_get kk_Mo_readPart 70 rfl) ?_
            refine wp_cV2v (ck_get kk_Mo_readPart 71 rfl) ml_Mo_233 (by omega) (Nat.le_of_ble_eq_true rfl) (by assumption) (Cv.to (m_numB hM0 (nI_m1 hpi)) ?_)
            rintro M₁ rfl
            refine wp_goto (t := 147) (ck_get kk_Mo_readPart 72 rfl) (by decide) ?_
            refine wp_return (ck_get kk_Mo_readPart 75 rfl) rfl ⟨rfl, ?_⟩
            exact rdQ.no
  by_cases hn : tc i = 50 ∧ tv i ≤ 1000
  · have q6 := q4 hn.1
    have hiN := hN2 i (by omega)
    rw [if_pos hn]
    have go : Wp g Y_Mo_readPart (20 * (9 - d) + 7) 111 [some (.ref o), some (.int (nI d)), some (.int (nI (tc i)))] [] (rdM M o i lf (-1)) (fun r M2 => r = none ∧ rdQ M o pl (if 50 ≤ lf then (false, i, lf, []) else (true, i + 1, lf + 1, [nI 1, nI (tv i)])) M2) := by
      by_cases h5 : 50 ≤ lf
      · rw [if_pos h5]; exact l50 h5
      · rw [if_neg h5]
        cases od with
        | false =>
          refine wp_aload_n rfl (ck_get kk_Mo_readPart 57 rfl) ?_
          refine wp_cV0v (ck_get kk_Mo_readPart 58 rfl) ml_Mo_269 (by omega) (Nat.le_of_ble_eq_true rfl) (by assumption) (Cv.to (m_leafY hT0 (by omega)) ?_)
          rintro M₁ rfl
          refine wp_aload_n rfl (ck_get kk_Mo_readPart 59 rfl) ?_
          refine wp_getIv (v := nI 0) (ck_get kk_Mo_readPart 60 rfl) fl_Mo_237 (by assumption) (e13 _ _ _) ?_
          first | refine wp_if_eqN (t := 147) (ck_get kk_Mo_readPart 61 rfl) (by decide) (by omega) (fun hc119 => ?_) (fun hc119 => ?_) | refine wp_if_eq (t := 147) (ck_get kk_Mo_readPart 61 rfl) (by decide) (fun hc119 => ?_) (fun hc119 => ?_)
          · refine wp_return (ck_get kk_Mo_readPart 75 rfl) rfl ⟨rfl, ?_⟩
            exact rdQ.yes
          · omega
        | true =>
          refine wp_aload_n rfl (ck_get kk_Mo_readPart 57 rfl) ?_
          refine wp_cV0v (ck_get kk_Mo_readPart 58 rfl) ml_Mo_269 (by omega) (Nat.le_of_ble_eq_true rfl) (by assumption) (Cv.to (m_leafY hT0 (by omega)) ?_)
          rintro M₁ rfl
          refine wp_aload_n rfl (ck_get kk_Mo_readPart 59 rfl) ?_
          refine wp_getIv (v := nI 1) (ck_get kk_Mo_readPart 60 rfl) fl_Mo_237 (by assumption) (e13 _ _ _) ?_
          first | refine wp_if_eqN (t := 147) (ck_get kk_Mo_readPart 61 rfl) (by decide) (by omega) (fun hc119 => ?_) (fun hc119 => ?_) | refine wp_if_eq (t := 147) (ck_get kk_Mo_readPart 61 rfl) (by decide) (fun hc119 => ?_) (fun hc119 => ?_)
          · omega
          · refine wp_iload_n rfl (ck_get kk_Mo_readPart 62 rfl) ?_
            refine wp_bipush (v := nI 15) (by decide) (ck_get kk_Mo_readPart 63 rfl) ?_
            first | refine wp_icmp_eqN (t := 134) (ck_get kk_Mo_readPart 64 rfl) (by decide) (by omega) (by omega) (fun hc125 => ?_) (fun hc125 => ?_) | refine wp_icmp_eq (t := 134) (ck_get kk_Mo_readPart 64 rfl) (by decide) (fun hc125 => ?_) (fun hc125 => ?_)
            · omega
            · refine wp_iload_n rfl (ck_get kk_Mo_readPart 65 rfl) ?_
              refine wp_bipush (v := nI 16) (by decide) (ck_get kk_Mo_readPart 66 rfl) ?_
              first | refine wp_icmp_neN (t := 147) (ck_get kk_Mo_readPart 67 rfl) (by decide) (by omega) (by omega) (fun hc131 => ?_) (fun hc131 => ?_) | refine wp_icmp_ne (t := 147) (ck_get kk_Mo_readPart 67 rfl) (by decide) (fun hc131 => ?_) (fun hc131 => ?_)
              · refine wp_return (ck_get kk_Mo_readPart 75 rfl) rfl ⟨rfl, ?_⟩
                exact rdQ.yes
              · omega
    refine wp_iload_n rfl (ck_get kk_Mo_readPart 39 rfl) ?_
    refine wp_bipush (v := nI 50) (by decide) (ck_get kk_Mo_readPart 40 rfl) ?_
    first | refine wp_icmp_neN (t := 95) (ck_get kk_Mo_readPart 41 rfl) (by decide) (by omega) (by omega) (fun hc77 => ?_) (fun hc77 => ?_) | refine wp_icmp_ne (t := 95) (ck_get kk_Mo_readPart 41 rfl) (by decide) (fun hc77 => ?_) (fun hc77 => ?_)
    · omega
    · refine wp_aload_n rfl (ck_get kk_Mo_readPart 42 rfl) ?_
      refine wp_getR (ck_get kk_Mo_readPart 43 rfl) fl_Mo_67 (by assumption) (by assumption) ?_
      refine wp_aload_n rfl (ck_get kk_Mo_readPart 44 rfl) ?_
      refine wp_getIv (v := nI i) (ck_get kk_Mo_readPart 45 rfl) fl_Mo_208 (by assumption) (rdM_22) ?_
      refine wp_ialdv (v := nI v) (ck_get kk_Mo_readPart 46 rfl) (by assumption) (ixk_nI (k := i) (by omega) (by omega)) (by rw [rdM_a (by omega)]; exact q2) ?_
      refine wp_sipush (v := nI 1000) (by decide) (ck_get kk_Mo_readPart 47 rfl) ?_
      first | refine wp_icmp_leN (t := 111) (ck_get kk_Mo_readPart 48 rfl) (by decide) (by omega) (by omega) (fun hc92 => ?_) (fun hc92 => ?_) | refine wp_icmp_le (t := 111) (ck_get kk_Mo_readPart 48 rfl) (by decide) (fun hc92 => ?_) (fun hc92 => ?_)
      · exact go
      · omega
  rw [if_neg hn]
  have hbig : tc i = 50 → 1000 < v := fun h => by
    have q6 := q4 h
    have : ¬ tv i ≤ 1000 := fun h2 => hn ⟨h, h2⟩
    omega
  by_cases hw : isLW od (tc i) = true
  · have hw2 := isLW_lt hw
    have hiN := hN2 i (by omega)
    rw [if_pos hw]
    have go : Wp g Y_Mo_readPart (20 * (9 - d) + 7) 111 [some (.ref o), some (.int (nI d)), some (.int (nI (tc i)))] [] (rdM M o i lf (-1)) (fun r M2 => r = none ∧ rdQ M o pl (if 50 ≤ lf then (false, i, lf, [])
        else if od = true ∧ 15 ≤ tc i then (if tc (i + 1) = 50 ∧ tv (i + 1) < 4 then (true, i + 2, lf + 1, [nI 2, nI (wIx od (tc i) (tv (i + 1)))]) else (false, i + 1, lf + 1, []))
        else (true, i + 1, lf + 1, [nI 2, nI (wIx od (tc i) 0)])) M2) := by
      by_cases h5 : 50 ≤ lf
      · rw [if_pos h5]; exact l50 h5
      rw [if_neg h5]
      by_cases ho : od = true
      · subst ho
        have hw3 := isLW_15 hw rfl
        by_cases hc : 15 ≤ tc i
        · rw [if_pos ⟨rfl, hc⟩]
          by_cases hq : tc (i + 1) = 50 ∧ tv (i + 1) < 4
          · rw [if_pos hq]
            have hiN2 := hN2 (i + 1) (by omega)
            refine wp_aload_n rfl (ck_get kk_Mo_readPart 57 rfl) ?_
            refine wp_cV0v (ck_get kk_Mo_readPart 58 rfl) ml_Mo_269 (by omega) (Nat.le_of_ble_eq_true rfl) (by assumption) (Cv.to (m_leafY hT0 (by omega)) ?_)
            rintro M₁ rfl
            refine wp_aload_n rfl (ck_get kk_Mo_readPart 59 rfl) ?_
            refine wp_getIv (v := nI 1) (ck_get kk_Mo_readPart 60 rfl) fl_Mo_237 (by assumption) (e13 _ _ _) ?_
            first | refine wp_if_eqN (t := 147) (ck_get kk_Mo_readPart 61 rfl) (by decide) (by omega) (fun hc119 => ?_) (fun hc119 => ?_) | refine wp_if_eq (t := 147) (ck_get kk_Mo_readPart 61 rfl) (by decide) (fun hc119 => ?_) (fun hc119 => ?_)
            · omega
            · refine wp_iload_n rfl (ck_get kk_Mo_readPart 62 rfl) ?_
              refine wp_bipush (v := nI 15) (by decide) (ck_get kk_Mo_readPart 63 rfl) ?_
              first | refine wp_icmp_eqN (t := 134) (ck_get kk_Mo_readPart 64 rfl) (by decide) (by omega) (by omega) (fun hc125 => ?_) (fun hc125 => ?_) | refine wp_icmp_eq (t := 134) (ck_get kk_Mo_readPart 64 rfl) (by decide) (fun hc125 => ?_) (fun hc125 => ?_)
              · refine wp_aload_n rfl (ck_get kk_Mo_readPart 68 rfl) ?_
                refine wp_iconst (v := nI 0) (by decide) (ck_get kk_Mo_readPart 69 rfl) ?_
                refine wp_iconst (v := nI 3) (by decide) (ck_get kk_Mo_readPart 70 rfl) ?_
                refine wp_cV2v (ck_get kk_Mo_readPart 71 rfl) ml_Mo_233 (by omega) (Nat.le_of_ble_eq_true rfl) (by assumption) (Cv.to (m_numY hT0 (by omega) hq.1 (by omega) (by omega) (by omega)) ?_)
                rintro M₁ rfl
                refine wp_goto (t := 147) (ck_get kk_Mo_readPart 72 rfl) (by decide) ?_
                refine wp_return (ck_get kk_Mo_readPart 75 rfl) rfl ⟨rfl, ?_⟩
                exact rdQ.yes
              · refine wp_iload_n rfl (ck_get kk_Mo_readPart 65 rfl) ?_
                refine wp_bipush (v := nI 16) (by decide) (ck_get kk_Mo_readPart 66 rfl) ?_
                first | refine wp_icmp_neN (t := 147) (ck_get kk_Mo_readPart 67 rfl) (by decide) (by omega) (by omega) (fun hc131 => ?_) (fun hc131 => ?_) | refine wp_icmp_ne (t := 147) (ck_get kk_Mo_readPart 67 rfl) (by decide) (fun hc131 => ?_) (fun hc131 => ?_)
                · omega
                · refine wp_aload_n rfl (ck_get kk_Mo_readPart 68 rfl) ?_
                  refine wp_iconst (v := nI 0) (by decide) (ck_get kk_Mo_readPart 69 rfl) ?_
                  refine wp_iconst (v := nI 3) (by decide) (ck_get kk_Mo_readPart 70 rfl) ?_
                  refine wp_cV2v (ck_get kk_Mo_readPart 71 rfl) ml_Mo_233 (by omega) (Nat.le_of_ble_eq_true rfl) (by assumption) (Cv.to (m_numY hT0 (by omega) hq.1 (by omega) (by omega) (by omega)) ?_)
                  rintro M₁ rfl
                  refine wp_goto (t := 147) (ck_get kk_Mo_readPart 72 rfl) (by decide) ?_
                  refine wp_return (ck_get kk_Mo_readPart 75 rfl) rfl ⟨rfl, ?_⟩
                  exact rdQ.yes
          · rw [if_neg hq]
            refine wp_aload_n rfl (ck_get kk_Mo_readPart 57 rfl) ?_
            refine wp_cV0v (ck_get kk_Mo_readPart 58 rfl) ml_Mo_269 (by omega) (Nat.le_of_ble_eq_true rfl) (by assumption) (Cv.to (m_leafY hT0 (by omega)) ?_)
            rintro M₁ rfl
            refine wp_aload_n rfl (ck_get kk_Mo_readPart 59 rfl) ?_
            refine wp_getIv (v := nI 1) (ck_get kk_Mo_readPart 60 rfl) fl_Mo_237 (by assumption) (e13 _ _ _) ?_
            first | refine wp_if_eqN (t := 147) (ck_get kk_Mo_readPart 61 rfl) (by decide) (by omega) (fun hc119 => ?_) (fun hc119 => ?_) | refine wp_if_eq (t := 147) (ck_get kk_Mo_readPart 61 rfl) (by decide) (fun hc119 => ?_) (fun hc119 => ?_)
            · omega
            · refine wp_iload_n rfl (ck_get kk_Mo_readPart 62 rfl) ?_
              refine wp_bipush (v := nI 15) (by decide) (ck_get kk_Mo_readPart 63 rfl) ?_
              first | refine wp_icmp_eqN (t := 134) (ck_get kk_Mo_readPart 64 rfl) (by decide) (by omega) (by omega) (fun hc125 => ?_) (fun hc125 => ?_) | refine wp_icmp_eq (t := 134) (ck_get kk_Mo_readPart 64 rfl) (by decide) (fun hc125 => ?_) (fun hc125 => ?_)
              · refine wp_aload_n rfl (ck_get kk_Mo_readPart 68 rfl) ?_
                refine wp_iconst (v := nI 0) (by decide) (ck_get kk_Mo_readPart 69 rfl) ?_
                refine wp_iconst (v := nI 3) (by decide) (ck_get kk_Mo_readPart 70 rfl) ?_
                refine wp_cV2v (ck_get kk_Mo_readPart 71 rfl) ml_Mo_233 (by omega) (Nat.le_of_ble_eq_true rfl) (by assumption) (Cv.to (m_numN hT0 (by omega) (fun h => hq ⟨h.1, by omega⟩) (by omega) (by omega)) ?_)
                rintro M₁ rfl
                refine wp_goto (t := 147) (ck_get kk_Mo_readPart 72 rfl) (by decide) ?_
                refine wp_return (ck_get kk_Mo_readPart 75 rfl) rfl ⟨rfl, ?_⟩
                exact rdQ.no
              · refine wp_iload_n rfl (ck_get kk_Mo_readPart 65 rfl) ?_
                refine wp_bipush (v := nI 16) (by decide) (ck_get kk_Mo_readPart 66 rfl) ?_
                first | refine wp_icmp_neN (t := 147) (ck_get kk_Mo_readPart 67 rfl) (by decide) (by omega) (by omega) (fun hc131 => ?_) (fun hc131 => ?_) | refine wp_icmp_ne (t := 147) (ck_get kk_Mo_readPart 67 rfl) (by decide) (fun hc131 => ?_) (fun hc131 => ?_)
                · omega
                · refine wp_aload_n rfl (ck_get kk_Mo_readPart 68 rfl) ?_
                  refine wp_iconst (v := nI 0) (by decide) (ck_get kk_Mo_readPart 69 rfl) ?_
                  refine wp_iconst (v := nI 3) (by decide) (ck_get kk_Mo_readPart 70 rfl) ?_
                  refine wp_cV2v (ck_get kk_Mo_readPart 71 rfl) ml_Mo_233 (by omega) (Nat.le_of_ble_eq_true rfl) (by assumption) (Cv.to (m_numN hT0 (by omega) (fun h => hq ⟨h.1, by omega⟩) (by omega) (by omega)) ?_)
                  rintro M₁ rfl
                  refine wp_goto (t := 147) (ck_get kk_Mo_readPart 72 rfl) (by decide) ?_
                  refine wp_return (ck_get kk_Mo_readPart 75 rfl) rfl ⟨rfl, ?_⟩
                  exact rdQ.no
        · rw [if_neg (fun h => hc h.2)]
          refine wp_aload_n rfl (ck_get kk_Mo_readPart 57 rfl) ?_
          refine wp_cV0v (ck_get kk_Mo_readPart 58 rfl) ml_Mo_269 (by omega) (Nat.le_of_ble_eq_true rfl) (by assumption) (Cv.to (m_leafY hT0 (by omega)) ?_)
          rintro M₁ rfl
          refine wp_aload_n rfl (ck_get kk_Mo_readPart 59 rfl) ?_
          refine wp_getIv (v := nI 1) (ck_get kk_Mo_readPart 60 rfl) fl_Mo_237 (by assumption) (e13 _ _ _) ?_
          first | refine wp_if_eqN (t := 147) (ck_get kk_Mo_readPart 61 rfl) (by decide) (by omega) (fun hc119 => ?_) (fun hc119 => ?_) | refine wp_if_eq (t := 147) (ck_get kk_Mo_readPart 61 rfl) (by decide) (fun hc119 => ?_) (fun hc119 => ?_)
          · omega
          · refine wp_iload_n rfl (ck_get kk_Mo_readPart 62 rfl) ?_
            refine wp_bipush (v := nI 15) (by decide) (ck_get kk_Mo_readPart 63 rfl) ?_
            first | refine wp_icmp_eqN (t := 134) (ck_get kk_Mo_readPart 64 rfl) (by decide) (by omega) (by omega) (fun hc125 => ?_) (fun hc125 => ?_) | refine wp_icmp_eq (t := 134) (ck_get kk_Mo_readPart 64 rfl) (by decide) (fun hc125 => ?_) (fun hc125 => ?_)
            · omega
            · refine wp_iload_n rfl (ck_get kk_Mo_readPart 65 rfl) ?_
              refine wp_bipush (v := nI 16) (by decide) (ck_get kk_Mo_readPart 66 rfl) ?_
              first | refine wp_icmp_neN (t := 147) (ck_get kk_Mo_readPart 67 rfl) (by decide) (by omega) (by omega) (fun hc131 => ?_) (fun hc131 => ?_) | refine wp_icmp_ne (t := 147) (ck_get kk_Mo_readPart 67 rfl) (by decide) (fun hc131 => ?_) (fun hc131 => ?_)
              · refine wp_return (ck_get kk_Mo_readPart 75 rfl) rfl ⟨rfl, ?_⟩
                exact rdQ.yes
              · omega
      · rw [if_neg (fun h => ho h.1)]
        have ho2 : od = false := by cases od; rfl; exact absurd rfl ho
        subst ho2
        refine wp_aload_n rfl (ck_get kk_Mo_readPart 57 rfl) ?_
        refine wp_cV0v (ck_get kk_Mo_readPart 58 rfl) ml_Mo_269 (by omega) (Nat.le_of_ble_eq_true rfl) (by assumption) (Cv.to (m_leafY hT0 (by omega)) ?_)
        rintro M₁ rfl
        refine wp_aload_n rfl (ck_get kk_Mo_readPart 59 rfl) ?_
        refine wp_getIv (v := nI 0) (ck_get kk_Mo_readPart 60 rfl) fl_Mo_237 (by assumption) (e13 _ _ _) ?_
        first | refine wp_if_eqN (t := 147) (ck_get kk_Mo_readPart 61 rfl) (by decide) (by omega) (fun hc119 => ?_) (fun hc119 => ?_) | refine wp_if_eq (t := 147) (ck_get kk_Mo_readPart 61 rfl) (by decide) (fun hc119 => ?_) (fun hc119 => ?_)
        · refine wp_return (ck_get kk_Mo_readPart 75 rfl) rfl ⟨rfl, ?_⟩
          exact rdQ.yes
        · omega
    have hlo : (if od = true then 12 else 7) ≤ tc i ∧ tc i ≤ (if od = true then 16 else 12) := by
      cases od with
      | true => exact of_decide_eq_true hw
      | false => exact of_decide_eq_true hw
    have hl1 : (if od = true then 12 else 7) < 100 := by cases od <;> decide
    have hl2 : (if od = true then 16 else 12) < 100 := by cases od <;> decide
    refine wp_iload_n rfl (ck_get kk_Mo_readPart 39 rfl) ?_
    refine wp_bipush (v := nI 50) (by decide) (ck_get kk_Mo_readPart 40 rfl) ?_
    first | refine wp_icmp_neN (t := 95) (ck_get kk_Mo_readPart 41 rfl) (by decide) (by omega) (by omega) (fun hc77 => ?_) (fun hc77 => ?_) | refine wp_icmp_ne (t := 95) (ck_get kk_Mo_readPart 41 rfl) (by decide) (fun hc77 => ?_) (fun hc77 => ?_)
    · skip
      refine wp_iload_n rfl (ck_get kk_Mo_readPart 49 rfl) ?_
      refine wp_aload_n rfl (ck_get kk_Mo_readPart 50 rfl) ?_
      refine wp_getIv (v := nI (if od = true then 12 else 7)) (ck_get kk_Mo_readPart 51 rfl) fl_Mo_263 (by assumption) (e11 _ _ _) ?_
      first | refine wp_icmp_ltN (t := 143) (ck_get kk_Mo_readPart 52 rfl) (by decide) (by omega) (by omega) (fun hc100 => ?_) (fun hc100 => ?_) | refine wp_icmp_lt (t := 143) (ck_get kk_Mo_readPart 52 rfl) (by decide) (fun hc100 => ?_) (fun hc100 => ?_)
      · omega
      · refine wp_iload_n rfl (ck_get kk_Mo_readPart 53 rfl) ?_
        refine wp_aload_n rfl (ck_get kk_Mo_readPart 54 rfl) ?_
        refine wp_getIv (v := nI (if od = true then 16 else 12)) (ck_get kk_Mo_readPart 55 rfl) fl_Mo_266 (by assumption) (e12 _ _ _) ?_
        first | refine wp_icmp_gtN (t := 143) (ck_get kk_Mo_readPart 56 rfl) (by decide) (by omega) (by omega) (fun hc108 => ?_) (fun hc108 => ?_) | refine wp_icmp_gt (t := 143) (ck_get kk_Mo_readPart 56 rfl) (by decide) (fun hc108 => ?_) (fun hc108 => ?_)
        · omega
        · exact go
    · omega
  · rw [if_neg hw]
    have hlo : ¬ ((if od = true then 12 else 7) ≤ tc i ∧ tc i ≤ (if od = true then 16 else 12)) := by
      intro h
      apply hw
      cases od with
      | true => exact decide_eq_true h
      | false => exact decide_eq_true h
    have hl1 : (if od = true then 12 else 7) < 100 := by cases od <;> decide
    have hl2 : (if od = true then 16 else 12) < 100 := by cases od <;> decide
    refine wp_iload_n rfl (ck_get kk_Mo_readPart 39 rfl) ?_
    refine wp_bipush (v := nI 50) (by decide) (ck_get kk_Mo_readPart 40 rfl) ?_
    first | refine wp_icmp_neN (t := 95) (ck_get kk_Mo_readPart 41 rfl) (by decide) (by omega) (by omega) (fun hc77 => ?_) (fun hc77 => ?_) | refine wp_icmp_ne (t := 95) (ck_get kk_Mo_readPart 41 rfl) (by decide) (fun hc77 => ?_) (fun hc77 => ?_)
    · skip
      refine wp_iload_n rfl (ck_get kk_Mo_readPart 49 rfl) ?_
      refine wp_aload_n rfl (ck_get kk_Mo_readPart 50 rfl) ?_
      refine wp_getIv (v := nI (if od = true then 12 else 7)) (ck_get kk_Mo_readPart 51 rfl) fl_Mo_263 (by assumption) (e11 _ _ _) ?_
      first | refine wp_icmp_ltN (t := 143) (ck_get kk_Mo_readPart 52 rfl) (by decide) (by omega) (by omega) (fun hc100 => ?_) (fun hc100 => ?_) | refine wp_icmp_lt (t := 143) (ck_get kk_Mo_readPart 52 rfl) (by decide) (fun hc100 => ?_) (fun hc100 => ?_)
      · refine wp_aload_n rfl (ck_get kk_Mo_readPart 73 rfl) ?_
        refine wp_cV0v (ck_get kk_Mo_readPart 74 rfl) ml_Mo_214 (by omega) (Nat.le_of_ble_eq_true rfl) (by assumption) (Cv.to (m_faultsY hT0 hi) ?_)
        rintro M₁ rfl
        refine wp_return (ck_get kk_Mo_readPart 75 rfl) rfl ⟨rfl, ?_⟩
        exact rdQ.no
      · refine wp_iload_n rfl (ck_get kk_Mo_readPart 53 rfl) ?_
        refine wp_aload_n rfl (ck_get kk_Mo_readPart 54 rfl) ?_
        refine wp_getIv (v := nI (if od = true then 16 else 12)) (ck_get kk_Mo_readPart 55 rfl) fl_Mo_266 (by assumption) (e12 _ _ _) ?_
        first | refine wp_icmp_gtN (t := 143) (ck_get kk_Mo_readPart 56 rfl) (by decide) (by omega) (by omega) (fun hc108 => ?_) (fun hc108 => ?_) | refine wp_icmp_gt (t := 143) (ck_get kk_Mo_readPart 56 rfl) (by decide) (fun hc108 => ?_) (fun hc108 => ?_)
        · refine wp_aload_n rfl (ck_get kk_Mo_readPart 73 rfl) ?_
          refine wp_cV0v (ck_get kk_Mo_readPart 74 rfl) ml_Mo_214 (by omega) (Nat.le_of_ble_eq_true rfl) (by assumption) (Cv.to (m_faultsY hT0 hi) ?_)
          rintro M₁ rfl
          refine wp_return (ck_get kk_Mo_readPart 75 rfl) rfl ⟨rfl, ?_⟩
          exact rdQ.no
        · omega
    · refine wp_aload_n rfl (ck_get kk_Mo_readPart 42 rfl) ?_
      refine wp_getR (ck_get kk_Mo_readPart 43 rfl) fl_Mo_67 (by assumption) (by assumption) ?_
      refine wp_aload_n rfl (ck_get kk_Mo_readPart 44 rfl) ?_
      refine wp_getIv (v := nI i) (ck_get kk_Mo_readPart 45 rfl) fl_Mo_208 (by assumption) (rdM_22) ?_
      refine wp_ialdv (v := nI v) (ck_get kk_Mo_readPart 46 rfl) (by assumption) (ixk_nI (k := i) (by omega) (by omega)) (by rw [rdM_a (by omega)]; exact q2) ?_
      refine wp_sipush (v := nI 1000) (by decide) (ck_get kk_Mo_readPart 47 rfl) ?_
      first | refine wp_icmp_leN (t := 111) (ck_get kk_Mo_readPart 48 rfl) (by decide) (by omega) (by omega) (fun hc92 => ?_) (fun hc92 => ?_) | refine wp_icmp_le (t := 111) (ck_get kk_Mo_readPart 48 rfl) (by decide) (fun hc92 => ?_) (fun hc92 => ?_)
      · have := hbig (by omega)
        omega
      · skip
        refine wp_iload_n rfl (ck_get kk_Mo_readPart 49 rfl) ?_
        refine wp_aload_n rfl (ck_get kk_Mo_readPart 50 rfl) ?_
        refine wp_getIv (v := nI (if od = true then 12 else 7)) (ck_get kk_Mo_readPart 51 rfl) fl_Mo_263 (by assumption) (e11 _ _ _) ?_
        first | refine wp_icmp_ltN (t := 143) (ck_get kk_Mo_readPart 52 rfl) (by decide) (by omega) (by omega) (fun hc100 => ?_) (fun hc100 => ?_) | refine wp_icmp_lt (t := 143) (ck_get kk_Mo_readPart 52 rfl) (by decide) (fun hc100 => ?_) (fun hc100 => ?_)
        · refine wp_aload_n rfl (ck_get kk_Mo_readPart 73 rfl) ?_
          refine wp_cV0v (ck_get kk_Mo_readPart 74 rfl) ml_Mo_214 (by omega) (Nat.le_of_ble_eq_true rfl) (by assumption) (Cv.to (m_faultsY hT0 hi) ?_)
          rintro M₁ rfl
          refine wp_return (ck_get kk_Mo_readPart 75 rfl) rfl ⟨rfl, ?_⟩
          exact rdQ.no
        · refine wp_iload_n rfl (ck_get kk_Mo_readPart 53 rfl) ?_
          refine wp_aload_n rfl (ck_get kk_Mo_readPart 54 rfl) ?_
          refine wp_getIv (v := nI (if od = true then 16 else 12)) (ck_get kk_Mo_readPart 55 rfl) fl_Mo_266 (by assumption) (e12 _ _ _) ?_
          first | refine wp_icmp_gtN (t := 143) (ck_get kk_Mo_readPart 56 rfl) (by decide) (by omega) (by omega) (fun hc108 => ?_) (fun hc108 => ?_) | refine wp_icmp_gt (t := 143) (ck_get kk_Mo_readPart 56 rfl) (by decide) (fun hc108 => ?_) (fun hc108 => ?_)
          · refine wp_aload_n rfl (ck_get kk_Mo_readPart 73 rfl) ?_
            refine wp_cV0v (ck_get kk_Mo_readPart 74 rfl) ml_Mo_214 (by omega) (Nat.le_of_ble_eq_true rfl) (by assumption) (Cv.to (m_faultsY hT0 hi) ?_)
            rintro M₁ rfl
            refine wp_return (ck_get kk_Mo_readPart 75 rfl) rfl ⟨rfl, ?_⟩
            exact rdQ.no
          · omega
theorem mr_Part (hT : TkOK M o N tc tv pl od) (h1 : MN g M o N tc tv pl od Y_Mo_readSum 9 4 3 f) : MN g M o N tc tv pl od Y_Mo_readPart 7 0 1 (f + 1) := by
  intro d i lf cl hd hi hlf hf
  have hT0 := hT
  obtain ⟨hM, hN, hN2, hc4, hpl, hTk, h13, h11, h12⟩ := hT
  obtain ⟨q1, ⟨v, q2, q3, q4⟩, q5⟩ := hTk i hi
  have hM0 := hM
  have hci := hc4 i
  have hpi := hpl i
  have to0 := hM.1
  have rfcode := MoAt.r hM 11 rfl
  have tfcode := MoAt.t hM 11 rfl
  rw [psr_0]
  refine cw_entry 1 pf_Mo_readPart rfl ?_
  by_cases hb : tc i = 191
  · have hiN := hN2 i (by omega)
    rw [if_pos hb]
    by_cases h8 : 8 ≤ d
    · rw [if_pos h8]
      refine wp_aload_n rfl (ck_get kk_Mo_readPart 0 rfl) ?_
      refine wp_cV0i (ck_get kk_Mo_readPart 1 rfl) ml_Mo_204 (by omega) (Nat.le_of_ble_eq_true rfl) (by assumption) (Ci.to (m_fineY hM0) ?_)
      rintro _ M1 ⟨rfl, eqm1⟩
      obtain rfl := eqm1.symm
      first | refine wp_if_neN (t := 8) (ck_get kk_Mo_readPart 2 rfl) (by decide) (by omega) (fun hc4 => ?_) (fun hc4 => ?_) | refine wp_if_ne (t := 8) (ck_get kk_Mo_readPart 2 rfl) (by decide) (fun hc4 => ?_) (fun hc4 => ?_)
      · refine wp_aload_n rfl (ck_get kk_Mo_readPart 4 rfl) ?_
        refine wp_getR (ck_get kk_Mo_readPart 5 rfl) fl_Mo_64 (by assumption) (by assumption) ?_
        refine wp_aload_n rfl (ck_get kk_Mo_readPart 6 rfl) ?_
        refine wp_getIv (v := nI i) (ck_get kk_Mo_readPart 7 rfl) fl_Mo_208 (by assumption) (rdM_22) ?_
        refine wp_ialdv (v := nI (tc i)) (ck_get kk_Mo_readPart 8 rfl) (by assumption) (ixk_nI (k := i) (by omega) (by omega)) (by rw [rdM_a (by omega)]; exact q1) ?_
        refine wp_istore_n (ck_get kk_Mo_readPart 9 rfl) (by decide) rfl ?_
        refine wp_iload_n rfl (ck_get kk_Mo_readPart 10 rfl) ?_
        refine wp_bipush (v := nI 91) (by decide) (ck_get kk_Mo_readPart 11 rfl) ?_
        refine wp_cS1i (ck_get kk_Mo_readPart 12 rfl) ml_Mo_253 (by omega) (Nat.le_of_ble_eq_true rfl) (Ci.to (m_signOf) ?_)
        rintro _ M1 ⟨rfl, eqm1⟩
        obtain rfl := eqm1.symm
        first | refine wp_icmp_neN (t := 74) (ck_get kk_Mo_readPart 13 rfl) (by decide) (by omega) (by omega) (fun hc24 => ?_) (fun hc24 => ?_) | refine wp_icmp_ne (t := 74) (ck_get kk_Mo_readPart 13 rfl) (by decide) (fun hc24 => ?_) (fun hc24 => ?_)
        · omega
        · refine wp_iload_n rfl (ck_get kk_Mo_readPart 14 rfl) ?_
          refine wp_bipush (v := nI 8) (by decide) (ck_get kk_Mo_readPart 15 rfl) ?_
          first | refine wp_icmp_neN (t := 37) (ck_get kk_Mo_readPart 16 rfl) (by decide) (by omega) (by omega) (fun hc30 => ?_) (fun hc30 => ?_) | refine wp_icmp_ne (t := 37) (ck_get kk_Mo_readPart 16 rfl) (by decide) (fun hc30 => ?_) (fun hc30 => ?_)
          · omega
          · refine wp_aload_n rfl (ck_get kk_Mo_readPart 17 rfl) ?_
            refine wp_cV0v (ck_get kk_Mo_readPart 18 rfl) ml_Mo_214 (by omega) (Nat.le_of_ble_eq_true rfl) (by assumption) (Cv.to (m_faultsY hT0 hi) ?_)
            rintro M₁ rfl
            refine wp_aload_n rfl (ck_get kk_Mo_readPart 19 rfl) ?_
            refine wp_cV0i (ck_get kk_Mo_readPart 20 rfl) ml_Mo_204 (by omega) (Nat.le_of_ble_eq_true rfl) (by assumption) (Ci.to (m_fineN hM0 (nI_m1 hpi)) ?_)
            rintro _ M1 ⟨rfl, eqm1⟩
            obtain rfl := eqm1.symm
            first | refine wp_if_neN (t := 45) (ck_get kk_Mo_readPart 21 rfl) (by decide) (by omega) (fun hc41 => ?_) (fun hc41 => ?_) | refine wp_if_ne (t := 45) (ck_get kk_Mo_readPart 21 rfl) (by decide) (fun hc41 => ?_) (fun hc41 => ?_)
            · omega
            · refine wp_return (ck_get kk_Mo_readPart 22 rfl) rfl ⟨rfl, ?_⟩
              exact rdQ.no
      · omega
    · rw [if_neg h8]
      refine wp_aload_n rfl (ck_get kk_Mo_readPart 0 rfl) ?_
      refine wp_cV0i (ck_get kk_Mo_readPart 1 rfl) ml_Mo_204 (by omega) (Nat.le_of_ble_eq_true rfl) (by assumption) (Ci.to (m_fineY hM0) ?_)
      rintro _ M1 ⟨rfl, eqm1⟩
      obtain rfl := eqm1.symm
      first | refine wp_if_neN (t := 8) (ck_get kk_Mo_readPart 2 rfl) (by decide) (by omega) (fun hc4 => ?_) (fun hc4 => ?_) | refine wp_if_ne (t := 8) (ck_get kk_Mo_readPart 2 rfl) (by decide) (fun hc4 => ?_) (fun hc4 => ?_)
      · refine wp_aload_n rfl (ck_get kk_Mo_readPart 4 rfl) ?_
        refine wp_getR (ck_get kk_Mo_readPart 5 rfl) fl_Mo_64 (by assumption) (by assumption) ?_
        refine wp_aload_n rfl (ck_get kk_Mo_readPart 6 rfl) ?_
        refine wp_getIv (v := nI i) (ck_get kk_Mo_readPart 7 rfl) fl_Mo_208 (by assumption) (rdM_22) ?_
        refine wp_ialdv (v := nI (tc i)) (ck_get kk_Mo_readPart 8 rfl) (by assumption) (ixk_nI (k := i) (by omega) (by omega)) (by rw [rdM_a (by omega)]; exact q1) ?_
        refine wp_istore_n (ck_get kk_Mo_readPart 9 rfl) (by decide) rfl ?_
        refine wp_iload_n rfl (ck_get kk_Mo_readPart 10 rfl) ?_
        refine wp_bipush (v := nI 91) (by decide) (ck_get kk_Mo_readPart 11 rfl) ?_
        refine wp_cS1i (ck_get kk_Mo_readPart 12 rfl) ml_Mo_253 (by omega) (Nat.le_of_ble_eq_true rfl) (Ci.to (m_signOf) ?_)
        rintro _ M1 ⟨rfl, eqm1⟩
        obtain rfl := eqm1.symm
        first | refine wp_icmp_neN (t := 74) (ck_get kk_Mo_readPart 13 rfl) (by decide) (by omega) (by omega) (fun hc24 => ?_) (fun hc24 => ?_) | refine wp_icmp_ne (t := 74) (ck_get kk_Mo_readPart 13 rfl) (by decide) (fun hc24 => ?_) (fun hc24 => ?_)
        · omega
        · refine wp_iload_n rfl (ck_get kk_Mo_readPart 14 rfl) ?_
          refine wp_bipush (v := nI 8) (by decide) (ck_get kk_Mo_readPart 15 rfl) ?_
          first | refine wp_icmp_neN (t := 37) (ck_get kk_Mo_readPart 16 rfl) (by decide) (by omega) (by omega) (fun hc30 => ?_) (fun hc30 => ?_) | refine wp_icmp_ne (t := 37) (ck_get kk_Mo_readPart 16 rfl) (by decide) (fun hc30 => ?_) (fun hc30 => ?_)
          · refine wp_aload_n rfl (ck_get kk_Mo_readPart 19 rfl) ?_
            refine wp_cV0i (ck_get kk_Mo_readPart 20 rfl) ml_Mo_204 (by omega) (Nat.le_of_ble_eq_true rfl) (by assumption) (Ci.to (m_fineY hM0) ?_)
            rintro _ M1 ⟨rfl, eqm1⟩
            obtain rfl := eqm1.symm
            first | refine wp_if_neN (t := 45) (ck_get kk_Mo_readPart 21 rfl) (by decide) (by omega) (fun hc41 => ?_) (fun hc41 => ?_) | refine wp_if_ne (t := 45) (ck_get kk_Mo_readPart 21 rfl) (by decide) (fun hc41 => ?_) (fun hc41 => ?_)
            · refine wp_aload_n rfl (ck_get kk_Mo_readPart 23 rfl) ?_
              refine wp_dup rfl (ck_get kk_Mo_readPart 24 rfl) ?_
              refine wp_getIv (v := nI i) (ck_get kk_Mo_readPart 25 rfl) fl_Mo_208 (by assumption) (rdM_22) ?_
              refine wp_iconst (v := nI 1) (by decide) (ck_get kk_Mo_readPart 26 rfl) ?_
              first | refine wp_iaddN (ck_get kk_Mo_readPart 27 rfl) ?_ | refine wp_iadd (ck_get kk_Mo_readPart 27 rfl) ?_
              refine wp_putI (ck_get kk_Mo_readPart 28 rfl) fl_Mo_208 (by decide +kernel) (by assumption) (okI_int _) ?_
              rw [rdM_w22]
              refine wp_aload_n rfl (ck_get kk_Mo_readPart 29 rfl) ?_
              refine wp_iload_n rfl (ck_get kk_Mo_readPart 30 rfl) ?_
              refine wp_iconst (v := nI 1) (by decide) (ck_get kk_Mo_readPart 31 rfl) ?_
              first | refine wp_iaddN (ck_get kk_Mo_readPart 32 rfl) ?_ | refine wp_iadd (ck_get kk_Mo_readPart 32 rfl) ?_
              refine wp_cV1v (ck_get kk_Mo_readPart 33 rfl) ml_Mo_220 (by omega) (Nat.le_of_ble_eq_true rfl) (by assumption) (Cv.to (h1 (d + 1) (i + 1) lf cl (by omega) (by omega) hlf (by omega)) ?_)
              rintro M₁ hq₁
              rcases hq₁ with ⟨j, lf2, sg, hr, rfl⟩ | ⟨j, lf2, sg, i2, lf3, hr, rfl⟩
              · obtain ⟨g1, g2, g3, g4, g5⟩ := psr_ok (N := N) hN2 f 4 (d + 1) (i + 1) lf cl j lf2 sg (by omega) hr (by omega) hlf
                rw [hr, pbd_y]
                by_cases hj : tc j = 193
                · rw [if_pos hj]
                  refine wp_aload_n rfl (ck_get kk_Mo_readPart 34 rfl) ?_
                  refine wp_bipush (v := nI 93) (by decide) (ck_get kk_Mo_readPart 35 rfl) ?_
                  refine wp_cS1i (ck_get kk_Mo_readPart 36 rfl) ml_Mo_253 (by omega) (Nat.le_of_ble_eq_true rfl) (Ci.to (m_signOf) ?_)
                  rintro _ M1 ⟨rfl, eqm1⟩
                  obtain rfl := eqm1.symm
                  refine wp_cV1v (ck_get kk_Mo_readPart 37 rfl) ml_Mo_224 (by omega) (Nat.le_of_ble_eq_true rfl) (by assumption) (Cv.to (m_mustY hT0 g2 hj) ?_)
                  rintro M₁ rfl
                  refine wp_goto (t := 147) (ck_get kk_Mo_readPart 38 rfl) (by decide) ?_
                  refine wp_return (ck_get kk_Mo_readPart 75 rfl) rfl ⟨rfl, ?_⟩
                  exact rdQ.yes
                · rw [if_neg hj]
                  refine wp_aload_n rfl (ck_get kk_Mo_readPart 34 rfl) ?_
                  refine wp_bipush (v := nI 93) (by decide) (ck_get kk_Mo_readPart 35 rfl) ?_
                  refine wp_cS1i (ck_get kk_Mo_readPart 36 rfl) ml_Mo_253 (by omega) (Nat.le_of_ble_eq_true rfl) (Ci.to (m_signOf) ?_)
                  rintro _ M1 ⟨rfl, eqm1⟩
                  obtain rfl := eqm1.symm
                  refine wp_cV1v (ck_get kk_Mo_readPart 37 rfl) ml_Mo_224 (by omega) (Nat.le_of_ble_eq_true rfl) (by assumption) (Cv.to (m_mustN hT0 g2 hj (by omega)) ?_)
                  rintro M₁ rfl
                  refine wp_goto (t := 147) (ck_get kk_Mo_readPart 38 rfl) (by decide) ?_
                  refine wp_return (ck_get kk_Mo_readPart 75 rfl) rfl ⟨rfl, ?_⟩
                  exact rdQ.no
              · rw [hr, pbd_n]
                refine wp_aload_n rfl (ck_get kk_Mo_readPart 34 rfl) ?_
                refine wp_bipush (v := nI 93) (by decide) (ck_get kk_Mo_readPart 35 rfl) ?_
                refine wp_cS1i (ck_get kk_Mo_readPart 36 rfl) ml_Mo_253 (by omega) (Nat.le_of_ble_eq_true rfl) (Ci.to (m_signOf) ?_)
                rintro _ M1 ⟨rfl, eqm1⟩
                obtain rfl := eqm1.symm
                refine wp_cV1v (ck_get kk_Mo_readPart 37 rfl) ml_Mo_224 (by omega) (Nat.le_of_ble_eq_true rfl) (by assumption) (Cv.to (m_mustB hM0 (nI_m1 (hpl j))) ?_)
                rintro M₁ rfl
                refine wp_goto (t := 147) (ck_get kk_Mo_readPart 38 rfl) (by decide) ?_
                refine wp_return (ck_get kk_Mo_readPart 75 rfl) rfl ⟨rfl, ?_⟩
                exact rdQ.no
            · omega
          · omega
      · omega
  · rw [if_neg hb]
    refine wp_aload_n rfl (ck_get kk_Mo_readPart 0 rfl) ?_
    refine wp_cV0i (ck_get kk_Mo_readPart 1 rfl) ml_Mo_204 (by omega) (Nat.le_of_ble_eq_true rfl) (by assumption) (Ci.to (m_fineY hM0) ?_)
    rintro _ M1 ⟨rfl, eqm1⟩
    obtain rfl := eqm1.symm
    first | refine wp_if_neN (t := 8) (ck_get kk_Mo_readPart 2 rfl) (by decide) (by omega) (fun hc4 => ?_) (fun hc4 => ?_) | refine wp_if_ne (t := 8) (ck_get kk_Mo_readPart 2 rfl) (by decide) (fun hc4 => ?_) (fun hc4 => ?_)
    · refine wp_aload_n rfl (ck_get kk_Mo_readPart 4 rfl) ?_
      refine wp_getR (ck_get kk_Mo_readPart 5 rfl) fl_Mo_64 (by assumption) (by assumption) ?_
      refine wp_aload_n rfl (ck_get kk_Mo_readPart 6 rfl) ?_
      refine wp_getIv (v := nI i) (ck_get kk_Mo_readPart 7 rfl) fl_Mo_208 (by assumption) (rdM_22) ?_
      refine wp_ialdv (v := nI (tc i)) (ck_get kk_Mo_readPart 8 rfl) (by assumption) (ixk_nI (k := i) (by omega) (by omega)) (by rw [rdM_a (by omega)]; exact q1) ?_
      refine wp_istore_n (ck_get kk_Mo_readPart 9 rfl) (by decide) rfl ?_
      refine wp_iload_n rfl (ck_get kk_Mo_readPart 10 rfl) ?_
      refine wp_bipush (v := nI 91) (by decide) (ck_get kk_Mo_readPart 11 rfl) ?_
      refine wp_cS1i (ck_get kk_Mo_readPart 12 rfl) ml_Mo_253 (by omega) (Nat.le_of_ble_eq_true rfl) (Ci.to (m_signOf) ?_)
      rintro _ M1 ⟨rfl, eqm1⟩
      obtain rfl := eqm1.symm
      first | refine wp_icmp_neN (t := 74) (ck_get kk_Mo_readPart 13 rfl) (by decide) (by omega) (by omega) (fun hc24 => ?_) (fun hc24 => ?_) | refine wp_icmp_ne (t := 74) (ck_get kk_Mo_readPart 13 rfl) (by decide) (fun hc24 => ?_) (fun hc24 => ?_)
      · exact mr_Part2 (cl := cl) hT0 hi hlf hb
      · omega
    · omega
/-- what is tested, behind "not" -/
theorem mr_Core {d cl : Nat} {x2 x3 : Option Value} (hT : TkOK M o N tc tv pl od) (h1 : MN g M o N tc tv pl od Y_Mo_readSum 9 4 3 f) (h2 : MN g M o N tc tv pl od Y_Mo_readTest 13 10 6 f) (hd : d ≤ 8) (hi : i ≤ N) (hlf : lf ≤ 50) (hf : 12 * (N - i) + 3 ≤ f) : Wp g Y_Mo_readPlain (20 * (9 - d) + 11) 16 [some (.ref o), some (.int (nI d)), some (.int (nI 0)), x3] [] (rdM M o i lf (-1)) (fun r M2 => r = none ∧ rdQ M o pl (psc tc tv od f d i lf cl) M2) := by
  have hT0 := hT
  obtain ⟨hM, hN, hN2, hc4, hpl, hTk, h13, h11, h12⟩ := hT
  obtain ⟨q1, ⟨v, q2, q3, q4⟩, q5⟩ := hTk i hi
  have hM0 := hM
  have hci := hc4 i
  have hpi := hpl i
  have to0 := hM.1
  have rfcode := MoAt.r hM 11 rfl
  have tfcode := MoAt.t hM 11 rfl
  unfold psc
  by_cases hb : tc i = 140
  · have hiN := hN2 i (by omega)
    rw [if_pos hb]
    by_cases h8 : 8 ≤ d
    · rw [if_pos h8]
      refine wp_aload_n rfl (ck_get kk_Mo_readPlain 9 rfl) ?_
      refine wp_cV0i (ck_get kk_Mo_readPlain 10 rfl) ml_Mo_204 (by omega) (Nat.le_of_ble_eq_true rfl) (by assumption) (Ci.to (m_fineY hM0) ?_)
      rintro _ M1 ⟨rfl, eqm1⟩
      obtain rfl := eqm1.symm
      first | refine wp_if_neN (t := 24) (ck_get kk_Mo_readPlain 11 rfl) (by decide) (by omega) (fun hc20 => ?_) (fun hc20 => ?_) | refine wp_if_ne (t := 24) (ck_get kk_Mo_readPlain 11 rfl) (by decide) (fun hc20 => ?_) (fun hc20 => ?_)
      · refine wp_aload_n rfl (ck_get kk_Mo_readPlain 13 rfl) ?_
        refine wp_getR (ck_get kk_Mo_readPlain 14 rfl) fl_Mo_64 (by assumption) (by assumption) ?_
        refine wp_aload_n rfl (ck_get kk_Mo_readPlain 15 rfl) ?_
        refine wp_getIv (v := nI i) (ck_get kk_Mo_readPlain 16 rfl) fl_Mo_208 (by assumption) (rdM_22) ?_
        refine wp_ialdv (v := nI (tc i)) (ck_get kk_Mo_readPlain 17 rfl) (by assumption) (ixk_nI (k := i) (by omega) (by omega)) (by rw [rdM_a (by omega)]; exact q1) ?_
        refine wp_istore_n (ck_get kk_Mo_readPlain 18 rfl) (by decide) rfl ?_
        refine wp_iload_n rfl (ck_get kk_Mo_readPlain 19 rfl) ?_
        refine wp_bipush (v := nI 40) (by decide) (ck_get kk_Mo_readPlain 20 rfl) ?_
        refine wp_cS1i (ck_get kk_Mo_readPlain 21 rfl) ml_Mo_253 (by omega) (Nat.le_of_ble_eq_true rfl) (Ci.to (m_signOf) ?_)
        rintro _ M1 ⟨rfl, eqm1⟩
        obtain rfl := eqm1.symm
        first | refine wp_icmp_neN (t := 90) (ck_get kk_Mo_readPlain 22 rfl) (by decide) (by omega) (by omega) (fun hc40 => ?_) (fun hc40 => ?_) | refine wp_icmp_ne (t := 90) (ck_get kk_Mo_readPlain 22 rfl) (by decide) (fun hc40 => ?_) (fun hc40 => ?_)
        · omega
        · refine wp_iload_n rfl (ck_get kk_Mo_readPlain 23 rfl) ?_
          refine wp_bipush (v := nI 8) (by decide) (ck_get kk_Mo_readPlain 24 rfl) ?_
          first | refine wp_icmp_neN (t := 53) (ck_get kk_Mo_readPlain 25 rfl) (by decide) (by omega) (by omega) (fun hc46 => ?_) (fun hc46 => ?_) | refine wp_icmp_ne (t := 53) (ck_get kk_Mo_readPlain 25 rfl) (by decide) (fun hc46 => ?_) (fun hc46 => ?_)
          · omega
          · refine wp_aload_n rfl (ck_get kk_Mo_readPlain 26 rfl) ?_
            refine wp_cV0v (ck_get kk_Mo_readPlain 27 rfl) ml_Mo_214 (by omega) (Nat.le_of_ble_eq_true rfl) (by assumption) (Cv.to (m_faultsY hT0 hi) ?_)
            rintro M₁ rfl
            refine wp_aload_n rfl (ck_get kk_Mo_readPlain 28 rfl) ?_
            refine wp_cV0i (ck_get kk_Mo_readPlain 29 rfl) ml_Mo_204 (by omega) (Nat.le_of_ble_eq_true rfl) (by assumption) (Ci.to (m_fineN hM0 (nI_m1 hpi)) ?_)
            rintro _ M1 ⟨rfl, eqm1⟩
            obtain rfl := eqm1.symm
            first | refine wp_if_neN (t := 61) (ck_get kk_Mo_readPlain 30 rfl) (by decide) (by omega) (fun hc57 => ?_) (fun hc57 => ?_) | refine wp_if_ne (t := 61) (ck_get kk_Mo_readPlain 30 rfl) (by decide) (fun hc57 => ?_) (fun hc57 => ?_)
            · omega
            · refine wp_return (ck_get kk_Mo_readPlain 31 rfl) rfl ⟨rfl, ?_⟩
              exact rdQ.no
      · omega
    · rw [if_neg h8]
      refine wp_aload_n rfl (ck_get kk_Mo_readPlain 9 rfl) ?_
      refine wp_cV0i (ck_get kk_Mo_readPlain 10 rfl) ml_Mo_204 (by omega) (Nat.le_of_ble_eq_true rfl) (by assumption) (Ci.to (m_fineY hM0) ?_)
      rintro _ M1 ⟨rfl, eqm1⟩
      obtain rfl := eqm1.symm
      first | refine wp_if_neN (t := 24) (ck_get kk_Mo_readPlain 11 rfl) (by decide) (by omega) (fun hc20 => ?_) (fun hc20 => ?_) | refine wp_if_ne (t := 24) (ck_get kk_Mo_readPlain 11 rfl) (by decide) (fun hc20 => ?_) (fun hc20 => ?_)
      · refine wp_aload_n rfl (ck_get kk_Mo_readPlain 13 rfl) ?_
        refine wp_getR (ck_get kk_Mo_readPlain 14 rfl) fl_Mo_64 (by assumption) (by assumption) ?_
        refine wp_aload_n rfl (ck_get kk_Mo_readPlain 15 rfl) ?_
        refine wp_getIv (v := nI i) (ck_get kk_Mo_readPlain 16 rfl) fl_Mo_208 (by assumption) (rdM_22) ?_
        refine wp_ialdv (v := nI (tc i)) (ck_get kk_Mo_readPlain 17 rfl) (by assumption) (ixk_nI (k := i) (by omega) (by omega)) (by rw [rdM_a (by omega)]; exact q1) ?_
        refine wp_istore_n (ck_get kk_Mo_readPlain 18 rfl) (by decide) rfl ?_
        refine wp_iload_n rfl (ck_get kk_Mo_readPlain 19 rfl) ?_
        refine wp_bipush (v := nI 40) (by decide) (ck_get kk_Mo_readPlain 20 rfl) ?_
        refine wp_cS1i (ck_get kk_Mo_readPlain 21 rfl) ml_Mo_253 (by omega) (Nat.le_of_ble_eq_true rfl) (Ci.to (m_signOf) ?_)
        rintro _ M1 ⟨rfl, eqm1⟩
        obtain rfl := eqm1.symm
        first | refine wp_icmp_neN (t := 90) (ck_get kk_Mo_readPlain 22 rfl) (by decide) (by omega) (by omega) (fun hc40 => ?_) (fun hc40 => ?_) | refine wp_icmp_ne (t := 90) (ck_get kk_Mo_readPlain 22 rfl) (by decide) (fun hc40 => ?_) (fun hc40 => ?_)
        · omega
        · refine wp_iload_n rfl (ck_get kk_Mo_readPlain 23 rfl) ?_
          refine wp_bipush (v := nI 8) (by decide) (ck_get kk_Mo_readPlain 24 rfl) ?_
          first | refine wp_icmp_neN (t := 53) (ck_get kk_Mo_readPlain 25 rfl) (by decide) (by omega) (by omega) (fun hc46 => ?_) (fun hc46 => ?_) | refine wp_icmp_ne (t := 53) (ck_get kk_Mo_readPlain 25 rfl) (by decide) (fun hc46 => ?_) (fun hc46 => ?_)
          · refine wp_aload_n rfl (ck_get kk_Mo_readPlain 28 rfl) ?_
            refine wp_cV0i (ck_get kk_Mo_readPlain 29 rfl) ml_Mo_204 (by omega) (Nat.le_of_ble_eq_true rfl) (by assumption) (Ci.to (m_fineY hM0) ?_)
            rintro _ M1 ⟨rfl, eqm1⟩
            obtain rfl := eqm1.symm
            first | refine wp_if_neN (t := 61) (ck_get kk_Mo_readPlain 30 rfl) (by decide) (by omega) (fun hc57 => ?_) (fun hc57 => ?_) | refine wp_if_ne (t := 61) (ck_get kk_Mo_readPlain 30 rfl) (by decide) (fun hc57 => ?_) (fun hc57 => ?_)
            · refine wp_aload_n rfl (ck_get kk_Mo_readPlain 32 rfl) ?_
              refine wp_dup rfl (ck_get kk_Mo_readPlain 33 rfl) ?_
              refine wp_getIv (v := nI i) (ck_get kk_Mo_readPlain 34 rfl) fl_Mo_208 (by assumption) (rdM_22) ?_
              refine wp_iconst (v := nI 1) (by decide) (ck_get kk_Mo_readPlain 35 rfl) ?_
              first | refine wp_iaddN (ck_get kk_Mo_readPlain 36 rfl) ?_ | refine wp_iadd (ck_get kk_Mo_readPlain 36 rfl) ?_
              refine wp_putI (ck_get kk_Mo_readPlain 37 rfl) fl_Mo_208 (by decide +kernel) (by assumption) (okI_int _) ?_
              rw [rdM_w22]
              refine wp_aload_n rfl (ck_get kk_Mo_readPlain 38 rfl) ?_
              refine wp_iload_n rfl (ck_get kk_Mo_readPlain 39 rfl) ?_
              refine wp_iconst (v := nI 1) (by decide) (ck_get kk_Mo_readPlain 40 rfl) ?_
              first | refine wp_iaddN (ck_get kk_Mo_readPlain 41 rfl) ?_ | refine wp_iadd (ck_get kk_Mo_readPlain 41 rfl) ?_
              refine wp_cV1v (ck_get kk_Mo_readPlain 42 rfl) ml_Mo_227 (by omega) (Nat.le_of_ble_eq_true rfl) (by assumption) (Cv.to (h2 (d + 1) (i + 1) lf cl (by omega) (by omega) hlf (by omega)) ?_)
              rintro M₁ hq₁
              rcases hq₁ with ⟨j, lf2, sg, hr, rfl⟩ | ⟨j, lf2, sg, i2, lf3, hr, rfl⟩
              · obtain ⟨g1, g2, g3, g4, g5⟩ := psr_ok (N := N) hN2 f 10 (d + 1) (i + 1) lf cl j lf2 sg (by omega) hr (by omega) hlf
                rw [hr, pbd_y]
                by_cases hj : tc j = 141
                · rw [if_pos hj]
                  refine wp_aload_n rfl (ck_get kk_Mo_readPlain 43 rfl) ?_
                  refine wp_bipush (v := nI 41) (by decide) (ck_get kk_Mo_readPlain 44 rfl) ?_
                  refine wp_cS1i (ck_get kk_Mo_readPlain 45 rfl) ml_Mo_253 (by omega) (Nat.le_of_ble_eq_true rfl) (Ci.to (m_signOf) ?_)
                  rintro _ M1 ⟨rfl, eqm1⟩
                  obtain rfl := eqm1.symm
                  refine wp_cV1v (ck_get kk_Mo_readPlain 46 rfl) ml_Mo_224 (by omega) (Nat.le_of_ble_eq_true rfl) (by assumption) (Cv.to (m_mustY hT0 g2 hj) ?_)
                  rintro M₁ rfl
                  refine wp_goto (t := 133) (ck_get kk_Mo_readPlain 47 rfl) (by decide) ?_
                  refine wp_return (ck_get kk_Mo_readPlain 68 rfl) rfl ⟨rfl, ?_⟩
                  exact rdQ.yes
                · rw [if_neg hj]
                  refine wp_aload_n rfl (ck_get kk_Mo_readPlain 43 rfl) ?_
                  refine wp_bipush (v := nI 41) (by decide) (ck_get kk_Mo_readPlain 44 rfl) ?_
                  refine wp_cS1i (ck_get kk_Mo_readPlain 45 rfl) ml_Mo_253 (by omega) (Nat.le_of_ble_eq_true rfl) (Ci.to (m_signOf) ?_)
                  rintro _ M1 ⟨rfl, eqm1⟩
                  obtain rfl := eqm1.symm
                  refine wp_cV1v (ck_get kk_Mo_readPlain 46 rfl) ml_Mo_224 (by omega) (Nat.le_of_ble_eq_true rfl) (by assumption) (Cv.to (m_mustN hT0 g2 hj (by omega)) ?_)
                  rintro M₁ rfl
                  refine wp_goto (t := 133) (ck_get kk_Mo_readPlain 47 rfl) (by decide) ?_
                  refine wp_return (ck_get kk_Mo_readPlain 68 rfl) rfl ⟨rfl, ?_⟩
                  exact rdQ.no
              · rw [hr, pbd_n]
                refine wp_aload_n rfl (ck_get kk_Mo_readPlain 43 rfl) ?_
                refine wp_bipush (v := nI 41) (by decide) (ck_get kk_Mo_readPlain 44 rfl) ?_
                refine wp_cS1i (ck_get kk_Mo_readPlain 45 rfl) ml_Mo_253 (by omega) (Nat.le_of_ble_eq_true rfl) (Ci.to (m_signOf) ?_)
                rintro _ M1 ⟨rfl, eqm1⟩
                obtain rfl := eqm1.symm
                refine wp_cV1v (ck_get kk_Mo_readPlain 46 rfl) ml_Mo_224 (by omega) (Nat.le_of_ble_eq_true rfl) (by assumption) (Cv.to (m_mustB hM0 (nI_m1 (hpl j))) ?_)
                rintro M₁ rfl
                refine wp_goto (t := 133) (ck_get kk_Mo_readPlain 47 rfl) (by decide) ?_
                refine wp_return (ck_get kk_Mo_readPlain 68 rfl) rfl ⟨rfl, ?_⟩
                exact rdQ.no
            · omega
          · omega
      · omega
  · rw [if_neg hb]
    refine wp_aload_n rfl (ck_get kk_Mo_readPlain 9 rfl) ?_
    refine wp_cV0i (ck_get kk_Mo_readPlain 10 rfl) ml_Mo_204 (by omega) (Nat.le_of_ble_eq_true rfl) (by assumption) (Ci.to (m_fineY hM0) ?_)
    rintro _ M1 ⟨rfl, eqm1⟩
    obtain rfl := eqm1.symm
    first | refine wp_if_neN (t := 24) (ck_get kk_Mo_readPlain 11 rfl) (by decide) (by omega) (fun hc20 => ?_) (fun hc20 => ?_) | refine wp_if_ne (t := 24) (ck_get kk_Mo_readPlain 11 rfl) (by decide) (fun hc20 => ?_) (fun hc20 => ?_)
    · refine wp_aload_n rfl (ck_get kk_Mo_readPlain 13 rfl) ?_
      refine wp_getR (ck_get kk_Mo_readPlain 14 rfl) fl_Mo_64 (by assumption) (by assumption) ?_
      refine wp_aload_n rfl (ck_get kk_Mo_readPlain 15 rfl) ?_
      refine wp_getIv (v := nI i) (ck_get kk_Mo_readPlain 16 rfl) fl_Mo_208 (by assumption) (rdM_22) ?_
      refine wp_ialdv (v := nI (tc i)) (ck_get kk_Mo_readPlain 17 rfl) (by assumption) (ixk_nI (k := i) (by omega) (by omega)) (by rw [rdM_a (by omega)]; exact q1) ?_
      refine wp_istore_n (ck_get kk_Mo_readPlain 18 rfl) (by decide) rfl ?_
      refine wp_iload_n rfl (ck_get kk_Mo_readPlain 19 rfl) ?_
      refine wp_bipush (v := nI 40) (by decide) (ck_get kk_Mo_readPlain 20 rfl) ?_
      refine wp_cS1i (ck_get kk_Mo_readPlain 21 rfl) ml_Mo_253 (by omega) (Nat.le_of_ble_eq_true rfl) (Ci.to (m_signOf) ?_)
      rintro _ M1 ⟨rfl, eqm1⟩
      obtain rfl := eqm1.symm
      first | refine wp_icmp_neN (t := 90) (ck_get kk_Mo_readPlain 22 rfl) (by decide) (by omega) (by omega) (fun hc40 => ?_) (fun hc40 => ?_) | refine wp_icmp_ne (t := 90) (ck_get kk_Mo_readPlain 22 rfl) (by decide) (fun hc40 => ?_) (fun hc40 => ?_)
      · refine wp_aload_n rfl (ck_get kk_Mo_readPlain 48 rfl) ?_
        refine wp_iload_n rfl (ck_get kk_Mo_readPlain 49 rfl) ?_
        refine wp_cV1v (ck_get kk_Mo_readPlain 50 rfl) ml_Mo_220 (by omega) (Nat.le_of_ble_eq_true rfl) (by assumption) (Cv.to (h1 d i lf cl hd hi hlf (by omega)) ?_)
        rintro M₁ hq₁
        rcases hq₁ with ⟨j, lf2, sg, hr, rfl⟩ | ⟨j, lf2, sg, i2, lf3, hr, rfl⟩
        · obtain ⟨g1, g2, g3, g4, g5⟩ := psr_ok (N := N) hN2 f 4 d i lf cl j lf2 sg (by omega) hr hi hlf
          rw [show ntk 4 = 1 from rfl] at g1
          rw [hr, pbd_y]
          have fin : tc j = 160 ∨ tc j = 162 ∨ tc j = 161 → Wp g Y_Mo_readPlain (20 * (9 - d) + 11) 128 [some (.ref o), some (.int (nI d)), some (.int (nI 0)), some (.int (nI (tc i)))] [] (rdM M o (j + 1) lf2 (-1)) (fun r M2 => r = none ∧ rdQ M o pl (if tc j = 160 ∨ tc j = 162 ∨ tc j = 161 then pbd (psr tc tv od f 4 d (j + 1) lf2 (cl + sg.length)) (fun j2 lf3 sg2 => (true, j2, lf3, (sg ++ sg2) ++ [nI (tc j - 100), nI 0])) else (false, j, lf2, [])) M2) := by
            intro hj
            have hjN := hN2 j (by omega)
            rw [if_pos hj]
            refine wp_aload_n rfl (ck_get kk_Mo_readPlain 65 rfl) ?_
            refine wp_iload_n rfl (ck_get kk_Mo_readPlain 66 rfl) ?_
            refine wp_cV1v (ck_get kk_Mo_readPlain 67 rfl) ml_Mo_220 (by omega) (Nat.le_of_ble_eq_true rfl) (by assumption) (Cv.to (h1 d (j + 1) lf2 (cl + sg.length) hd (by omega) g3 (by omega)) ?_)
            rintro M₁ hq₂
            refine wp_return (ck_get kk_Mo_readPlain 68 rfl) rfl ⟨rfl, ?_⟩
            exact hq₂.pb (F := fun sg2 => (sg ++ sg2) ++ [nI (tc j - 100), nI 0])
          by_cases j0 : tc j = 100 + 60
          · skip
            refine wp_aload_n rfl (ck_get kk_Mo_readPlain 51 rfl) ?_
            refine wp_bipush (v := nI 60) (by decide) (ck_get kk_Mo_readPlain 52 rfl) ?_
            refine wp_cS1i (ck_get kk_Mo_readPlain 53 rfl) ml_Mo_253 (by omega) (Nat.le_of_ble_eq_true rfl) (Ci.to (m_signOf) ?_)
            rintro _ M1 ⟨rfl, eqm1⟩
            obtain rfl := eqm1.symm
            refine wp_cV1i (ck_get kk_Mo_readPlain 54 rfl) ml_Mo_211 (by omega) (Nat.le_of_ble_eq_true rfl) (by assumption) (Ci.to (m_takesY hT0 g2 j0) ?_)
            rintro _ M1 ⟨rfl, eqm1⟩
            obtain rfl := eqm1.symm
            first | refine wp_if_neN (t := 128) (ck_get kk_Mo_readPlain 55 rfl) (by decide) (by omega) (fun hc104 => ?_) (fun hc104 => ?_) | refine wp_if_ne (t := 128) (ck_get kk_Mo_readPlain 55 rfl) (by decide) (fun hc104 => ?_) (fun hc104 => ?_)
            · exact fin (by omega)
            · omega
          by_cases j1 : tc j = 100 + 62
          · skip
            refine wp_aload_n rfl (ck_get kk_Mo_readPlain 51 rfl) ?_
            refine wp_bipush (v := nI 60) (by decide) (ck_get kk_Mo_readPlain 52 rfl) ?_
            refine wp_cS1i (ck_get kk_Mo_readPlain 53 rfl) ml_Mo_253 (by omega) (Nat.le_of_ble_eq_true rfl) (Ci.to (m_signOf) ?_)
            rintro _ M1 ⟨rfl, eqm1⟩
            obtain rfl := eqm1.symm
            refine wp_cV1i (ck_get kk_Mo_readPlain 54 rfl) ml_Mo_211 (by omega) (Nat.le_of_ble_eq_true rfl) (by assumption) (Ci.to (m_takesN hT0 g2 j0 (by omega)) ?_)
            rintro _ M1 ⟨rfl, eqm1⟩
            obtain rfl := eqm1.symm
            first | refine wp_if_neN (t := 128) (ck_get kk_Mo_readPlain 55 rfl) (by decide) (by omega) (fun hc104 => ?_) (fun hc104 => ?_) | refine wp_if_ne (t := 128) (ck_get kk_Mo_readPlain 55 rfl) (by decide) (fun hc104 => ?_) (fun hc104 => ?_)
            · omega
            · refine wp_aload_n rfl (ck_get kk_Mo_readPlain 56 rfl) ?_
              refine wp_bipush (v := nI 62) (by decide) (ck_get kk_Mo_readPlain 57 rfl) ?_
              refine wp_cS1i (ck_get kk_Mo_readPlain 58 rfl) ml_Mo_253 (by omega) (Nat.le_of_ble_eq_true rfl) (Ci.to (m_signOf) ?_)
              rintro _ M1 ⟨rfl, eqm1⟩
              obtain rfl := eqm1.symm
              refine wp_cV1i (ck_get kk_Mo_readPlain 59 rfl) ml_Mo_211 (by omega) (Nat.le_of_ble_eq_true rfl) (by assumption) (Ci.to (m_takesY hT0 g2 j1) ?_)
              rintro _ M1 ⟨rfl, eqm1⟩
              obtain rfl := eqm1.symm
              first | refine wp_if_neN (t := 128) (ck_get kk_Mo_readPlain 60 rfl) (by decide) (by omega) (fun hc116 => ?_) (fun hc116 => ?_) | refine wp_if_ne (t := 128) (ck_get kk_Mo_readPlain 60 rfl) (by decide) (fun hc116 => ?_) (fun hc116 => ?_)
              · exact fin (by omega)
              · omega
          by_cases j2 : tc j = 100 + 61
          · skip
            refine wp_aload_n rfl (ck_get kk_Mo_readPlain 51 rfl) ?_
            refine wp_bipush (v := nI 60) (by decide) (ck_get kk_Mo_readPlain 52 rfl) ?_
            refine wp_cS1i (ck_get kk_Mo_readPlain 53 rfl) ml_Mo_253 (by omega) (Nat.le_of_ble_eq_true rfl) (Ci.to (m_signOf) ?_)
            rintro _ M1 ⟨rfl, eqm1⟩
            obtain rfl := eqm1.symm
            refine wp_cV1i (ck_get kk_Mo_readPlain 54 rfl) ml_Mo_211 (by omega) (Nat.le_of_ble_eq_true rfl) (by assumption) (Ci.to (m_takesN hT0 g2 j0 (by omega)) ?_)
            rintro _ M1 ⟨rfl, eqm1⟩
            obtain rfl := eqm1.symm
            first | refine wp_if_neN (t := 128) (ck_get kk_Mo_readPlain 55 rfl) (by decide) (by omega) (fun hc104 => ?_) (fun hc104 => ?_) | refine wp_if_ne (t := 128) (ck_get kk_Mo_readPlain 55 rfl) (by decide) (fun hc104 => ?_) (fun hc104 => ?_)
            · omega
            · refine wp_aload_n rfl (ck_get kk_Mo_readPlain 56 rfl) ?_
              refine wp_bipush (v := nI 62) (by decide) (ck_get kk_Mo_readPlain 57 rfl) ?_
              refine wp_cS1i (ck_get kk_Mo_readPlain 58 rfl) ml_Mo_253 (by omega) (Nat.le_of_ble_eq_true rfl) (Ci.to (m_signOf) ?_)
              rintro _ M1 ⟨rfl, eqm1⟩
              obtain rfl := eqm1.symm
              refine wp_cV1i (ck_get kk_Mo_readPlain 59 rfl) ml_Mo_211 (by omega) (Nat.le_of_ble_eq_true rfl) (by assumption) (Ci.to (m_takesN hT0 g2 j1 (by omega)) ?_)
              rintro _ M1 ⟨rfl, eqm1⟩
              obtain rfl := eqm1.symm
              first | refine wp_if_neN (t := 128) (ck_get kk_Mo_readPlain 60 rfl) (by decide) (by omega) (fun hc116 => ?_) (fun hc116 => ?_) | refine wp_if_ne (t := 128) (ck_get kk_Mo_readPlain 60 rfl) (by decide) (fun hc116 => ?_) (fun hc116 => ?_)
              · omega
              · refine wp_aload_n rfl (ck_get kk_Mo_readPlain 61 rfl) ?_
                refine wp_bipush (v := nI 61) (by decide) (ck_get kk_Mo_readPlain 62 rfl) ?_
                refine wp_cS1i (ck_get kk_Mo_readPlain 63 rfl) ml_Mo_253 (by omega) (Nat.le_of_ble_eq_true rfl) (Ci.to (m_signOf) ?_)
                rintro _ M1 ⟨rfl, eqm1⟩
                obtain rfl := eqm1.symm
                refine wp_cV1v (ck_get kk_Mo_readPlain 64 rfl) ml_Mo_224 (by omega) (Nat.le_of_ble_eq_true rfl) (by assumption) (Cv.to (m_mustY hT0 g2 j2) ?_)
                rintro M₁ rfl
                exact fin (by omega)
          · rw [if_neg (by omega)]
            refine wp_aload_n rfl (ck_get kk_Mo_readPlain 51 rfl) ?_
            refine wp_bipush (v := nI 60) (by decide) (ck_get kk_Mo_readPlain 52 rfl) ?_
            refine wp_cS1i (ck_get kk_Mo_readPlain 53 rfl) ml_Mo_253 (by omega) (Nat.le_of_ble_eq_true rfl) (Ci.to (m_signOf) ?_)
            rintro _ M1 ⟨rfl, eqm1⟩
            obtain rfl := eqm1.symm
            refine wp_cV1i (ck_get kk_Mo_readPlain 54 rfl) ml_Mo_211 (by omega) (Nat.le_of_ble_eq_true rfl) (by assumption) (Ci.to (m_takesN hT0 g2 j0 (by omega)) ?_)
            rintro _ M1 ⟨rfl, eqm1⟩
            obtain rfl := eqm1.symm
            first | refine wp_if_neN (t := 128) (ck_get kk_Mo_readPlain 55 rfl) (by decide) (by omega) (fun hc104 => ?_) (fun hc104 => ?_) | refine wp_if_ne (t := 128) (ck_get kk_Mo_readPlain 55 rfl) (by decide) (fun hc104 => ?_) (fun hc104 => ?_)
            · omega
            · refine wp_aload_n rfl (ck_get kk_Mo_readPlain 56 rfl) ?_
              refine wp_bipush (v := nI 62) (by decide) (ck_get kk_Mo_readPlain 57 rfl) ?_
              refine wp_cS1i (ck_get kk_Mo_readPlain 58 rfl) ml_Mo_253 (by omega) (Nat.le_of_ble_eq_true rfl) (Ci.to (m_signOf) ?_)
              rintro _ M1 ⟨rfl, eqm1⟩
              obtain rfl := eqm1.symm
              refine wp_cV1i (ck_get kk_Mo_readPlain 59 rfl) ml_Mo_211 (by omega) (Nat.le_of_ble_eq_true rfl) (by assumption) (Ci.to (m_takesN hT0 g2 j1 (by omega)) ?_)
              rintro _ M1 ⟨rfl, eqm1⟩
              obtain rfl := eqm1.symm
              first | refine wp_if_neN (t := 128) (ck_get kk_Mo_readPlain 60 rfl) (by decide) (by omega) (fun hc116 => ?_) (fun hc116 => ?_) | refine wp_if_ne (t := 128) (ck_get kk_Mo_readPlain 60 rfl) (by decide) (fun hc116 => ?_) (fun hc116 => ?_)
              · omega
              · refine wp_aload_n rfl (ck_get kk_Mo_readPlain 61 rfl) ?_
                refine wp_bipush (v := nI 61) (by decide) (ck_get kk_Mo_readPlain 62 rfl) ?_
                refine wp_cS1i (ck_get kk_Mo_readPlain 63 rfl) ml_Mo_253 (by omega) (Nat.le_of_ble_eq_true rfl) (Ci.to (m_signOf) ?_)
                rintro _ M1 ⟨rfl, eqm1⟩
                obtain rfl := eqm1.symm
                refine wp_cV1v (ck_get kk_Mo_readPlain 64 rfl) ml_Mo_224 (by omega) (Nat.le_of_ble_eq_true rfl) (by assumption) (Cv.to (m_mustN hT0 g2 j2 (by omega)) ?_)
                rintro M₁ rfl
                refine wp_aload_n rfl (ck_get kk_Mo_readPlain 65 rfl) ?_
                refine wp_iload_n rfl (ck_get kk_Mo_readPlain 66 rfl) ?_
                refine wp_cV1v (ck_get kk_Mo_readPlain 67 rfl) ml_Mo_220 (by omega) (Nat.le_of_ble_eq_true rfl) (by assumption) (Cv.to (mb_Sum (n := 8) hM0 (nI_m1 (hpl j)) (by omega)) ?_)
                rintro M₁ rfl
                refine wp_return (ck_get kk_Mo_readPlain 68 rfl) rfl ⟨rfl, ?_⟩
                exact rdQ.no
        · rw [hr, pbd_n]
          refine wp_aload_n rfl (ck_get kk_Mo_readPlain 51 rfl) ?_
          refine wp_bipush (v := nI 60) (by decide) (ck_get kk_Mo_readPlain 52 rfl) ?_
          refine wp_cS1i (ck_get kk_Mo_readPlain 53 rfl) ml_Mo_253 (by omega) (Nat.le_of_ble_eq_true rfl) (Ci.to (m_signOf) ?_)
          rintro _ M1 ⟨rfl, eqm1⟩
          obtain rfl := eqm1.symm
          refine wp_cV1i (ck_get kk_Mo_readPlain 54 rfl) ml_Mo_211 (by omega) (Nat.le_of_ble_eq_true rfl) (by assumption) (Ci.to (m_takesB hM0 (nI_m1 (hpl j))) ?_)
          rintro _ M1 ⟨rfl, eqm1⟩
          obtain rfl := eqm1.symm
          first | refine wp_if_neN (t := 128) (ck_get kk_Mo_readPlain 55 rfl) (by decide) (by omega) (fun hc104 => ?_) (fun hc104 => ?_) | refine wp_if_ne (t := 128) (ck_get kk_Mo_readPlain 55 rfl) (by decide) (fun hc104 => ?_) (fun hc104 => ?_)
          · omega
          · refine wp_aload_n rfl (ck_get kk_Mo_readPlain 56 rfl) ?_
            refine wp_bipush (v := nI 62) (by decide) (ck_get kk_Mo_readPlain 57 rfl) ?_
            refine wp_cS1i (ck_get kk_Mo_readPlain 58 rfl) ml_Mo_253 (by omega) (Nat.le_of_ble_eq_true rfl) (Ci.to (m_signOf) ?_)
            rintro _ M1 ⟨rfl, eqm1⟩
            obtain rfl := eqm1.symm
            refine wp_cV1i (ck_get kk_Mo_readPlain 59 rfl) ml_Mo_211 (by omega) (Nat.le_of_ble_eq_true rfl) (by assumption) (Ci.to (m_takesB hM0 (nI_m1 (hpl j))) ?_)
            rintro _ M1 ⟨rfl, eqm1⟩
            obtain rfl := eqm1.symm
            first | refine wp_if_neN (t := 128) (ck_get kk_Mo_readPlain 60 rfl) (by decide) (by omega) (fun hc116 => ?_) (fun hc116 => ?_) | refine wp_if_ne (t := 128) (ck_get kk_Mo_readPlain 60 rfl) (by decide) (fun hc116 => ?_) (fun hc116 => ?_)
            · omega
            · refine wp_aload_n rfl (ck_get kk_Mo_readPlain 61 rfl) ?_
              refine wp_bipush (v := nI 61) (by decide) (ck_get kk_Mo_readPlain 62 rfl) ?_
              refine wp_cS1i (ck_get kk_Mo_readPlain 63 rfl) ml_Mo_253 (by omega) (Nat.le_of_ble_eq_true rfl) (Ci.to (m_signOf) ?_)
              rintro _ M1 ⟨rfl, eqm1⟩
              obtain rfl := eqm1.symm
              refine wp_cV1v (ck_get kk_Mo_readPlain 64 rfl) ml_Mo_224 (by omega) (Nat.le_of_ble_eq_true rfl) (by assumption) (Cv.to (m_mustB hM0 (nI_m1 (hpl j))) ?_)
              rintro M₁ rfl
              refine wp_aload_n rfl (ck_get kk_Mo_readPlain 65 rfl) ?_
              refine wp_iload_n rfl (ck_get kk_Mo_readPlain 66 rfl) ?_
              refine wp_cV1v (ck_get kk_Mo_readPlain 67 rfl) ml_Mo_220 (by omega) (Nat.le_of_ble_eq_true rfl) (by assumption) (Cv.to (mb_Sum (n := 8) hM0 (nI_m1 (hpl j)) (by omega)) ?_)
              rintro M₁ rfl
              refine wp_return (ck_get kk_Mo_readPlain 68 rfl) rfl ⟨rfl, ?_⟩
              exact rdQ.no
      · omega
    · omega
def MP (g : Gl) (M : Mem) (o N : Nat) (tc tv pl : Nat → Nat) (od : Bool) (f : Nat) : Prop := ∀ (d i lf cl : Nat) (tn : Bool) (x3 : Option Value), d ≤ 8 → i ≤ N → lf ≤ 50 → 12 * (N - i) + 4 ≤ f → Wp g Y_Mo_readPlain (20 * (9 - d) + 11) 2 [some (.ref o), some (.int (nI d)), some (.int (nI 1)), x3] [] (rdM M o i lf (-1)) (fun r M2 => r = none ∧ rdQ M o pl (psr tc tv od f (if tn = true then 6 else 5) d i lf cl) M2)
theorem mr_PlainL (hT : TkOK M o N tc tv pl od) (h1 : MN g M o N tc tv pl od Y_Mo_readSum 9 4 3 f) (h2 : MN g M o N tc tv pl od Y_Mo_readTest 13 10 6 f) (h3 : MP g M o N tc tv pl od f) : MP g M o N tc tv pl od (f + 1) := by
  intro d i lf cl tn x3 hd hi hlf hf
  have to0 := hT.1.1
  have e56 : psr tc tv od (f + 1) (if tn = true then 6 else 5) d i lf cl = if tc i = 6 then psr tc tv od f (if (!tn) = true then 6 else 5) d (i + 1) lf cl else pbd (psc tc tv od f d i lf cl) (fun j lf2 sg => (true, j, lf2, sg ++ (if tn = true then [nI 3, nI 0] else []))) := by
    cases tn
    · exact psr_5
    · exact psr_6
  rw [e56]
  by_cases h6 : tc i = 6
  · have hiN := hT.2.2.1 i (by omega)
    rw [if_pos h6]
    refine wp_iload_n rfl (ck_get kk_Mo_readPlain 2 rfl) ?_
    first | refine wp_if_eqN (t := 16) (ck_get kk_Mo_readPlain 3 rfl) (by decide) (by omega) (fun hc3 => ?_) (fun hc3 => ?_) | refine wp_if_eq (t := 16) (ck_get kk_Mo_readPlain 3 rfl) (by decide) (fun hc3 => ?_) (fun hc3 => ?_)
    · omega
    · refine wp_aload_n rfl (ck_get kk_Mo_readPlain 4 rfl) ?_
      refine wp_bipush (v := nI 6) (by decide) (ck_get kk_Mo_readPlain 5 rfl) ?_
      refine wp_cV1i (ck_get kk_Mo_readPlain 6 rfl) ml_Mo_211 (by omega) (Nat.le_of_ble_eq_true rfl) (by assumption) (Ci.to (m_takesY hT hi h6) ?_)
      rintro _ M1 ⟨rfl, eqm1⟩
      obtain rfl := eqm1.symm
      refine wp_istore_n (ck_get kk_Mo_readPlain 7 rfl) (by decide) rfl ?_
      refine wp_goto (t := 2) (ck_get kk_Mo_readPlain 8 rfl) (by decide) ?_
      exact h3 d (i + 1) lf cl (!tn) x3 hd (by omega) hlf (by omega)
  · rw [if_neg h6]
    refine wp_iload_n rfl (ck_get kk_Mo_readPlain 2 rfl) ?_
    first | refine wp_if_eqN (t := 16) (ck_get kk_Mo_readPlain 3 rfl) (by decide) (by omega) (fun hc3 => ?_) (fun hc3 => ?_) | refine wp_if_eq (t := 16) (ck_get kk_Mo_readPlain 3 rfl) (by decide) (fun hc3 => ?_) (fun hc3 => ?_)
    · omega
    · refine wp_aload_n rfl (ck_get kk_Mo_readPlain 4 rfl) ?_
      refine wp_bipush (v := nI 6) (by decide) (ck_get kk_Mo_readPlain 5 rfl) ?_
      refine wp_cV1i (ck_get kk_Mo_readPlain 6 rfl) ml_Mo_211 (by omega) (Nat.le_of_ble_eq_true rfl) (by assumption) (Ci.to (m_takesN hT hi h6 (by omega)) ?_)
      rintro _ M1 ⟨rfl, eqm1⟩
      obtain rfl := eqm1.symm
      refine wp_istore_n (ck_get kk_Mo_readPlain 7 rfl) (by decide) rfl ?_
      refine wp_goto (t := 2) (ck_get kk_Mo_readPlain 8 rfl) (by decide) ?_
      skip
      refine wp_iload_n rfl (ck_get kk_Mo_readPlain 2 rfl) ?_
      first | refine wp_if_eqN (t := 16) (ck_get kk_Mo_readPlain 3 rfl) (by decide) (by omega) (fun hc3 => ?_) (fun hc3 => ?_) | refine wp_if_eq (t := 16) (ck_get kk_Mo_readPlain 3 rfl) (by decide) (fun hc3 => ?_) (fun hc3 => ?_)
      · refine Wp.mono (mr_Core (x2 := none) (cl := cl) hT h1 h2 hd hi hlf (by omega)) ?_
        rintro r₂ M₂ ⟨hr₂, hq₂⟩
        exact ⟨hr₂, hq₂.pb (F := fun sg => sg ++ (if tn = true then [nI 3, nI 0] else []))⟩
      · omega
theorem mr_Plain (hT : TkOK M o N tc tv pl od) (h3 : MP g M o N tc tv pl od f) : MN g M o N tc tv pl od Y_Mo_readPlain 11 5 4 f := by
  intro d i lf cl hd hi hlf hf
  have to0 := hT.1.1
  refine cw_entry 2 pf_Mo_readPlain rfl ?_
  refine wp_iconst (v := nI 1) (by decide) (ck_get kk_Mo_readPlain 0 rfl) ?_
  refine wp_istore_n (ck_get kk_Mo_readPlain 1 rfl) (by decide) rfl ?_
  exact h3 d i lf cl false none hd hi hlf hf
theorem MN_0 {Y : Meth} {n0 nt rk : Nat} (h : 1 ≤ rk) : MN g M o N tc tv pl od Y n0 nt rk 0 := by
  intro d i lf cl hd hi hlf hf
  omega
theorem ML_0 {Y : Meth} {n0 nt : Nat} : ML g M o N tc tv pl od Y n0 nt 0 := by
  intro d i lf cl hd hi hlf hf
  omega
theorem MP_0 : MP g M o N tc tv pl od 0 := by
  intro d i lf cl tn x3 hd hi hlf hf
  omega
theorem mr_all (hT : TkOK M o N tc tv pl od) : ∀ f, MN g M o N tc tv pl od Y_Mo_readPart 7 0 1 f ∧ ML g M o N tc tv pl od Y_Mo_readTerm 8 1 f ∧ MN g M o N tc tv pl od Y_Mo_readTerm 8 2 2 f ∧ ML g M o N tc tv pl od Y_Mo_readSum 9 3 f ∧ MN g M o N tc tv pl od Y_Mo_readSum 9 4 3 f ∧ MP g M o N tc tv pl od f ∧ ML g M o N tc tv pl od Y_Mo_readBoth 12 7 f ∧ MN g M o N tc tv pl od Y_Mo_readBoth 12 8 5 f ∧ ML g M o N tc tv pl od Y_Mo_readTest 13 9 f ∧ MN g M o N tc tv pl od Y_Mo_readTest 13 10 6 f
  | 0 => ⟨MN_0 (by omega), ML_0, MN_0 (by omega), ML_0, MN_0 (by omega), MP_0, ML_0, MN_0 (by omega), ML_0, MN_0 (by omega)⟩
  | f + 1 => by
    obtain ⟨a1, a2, a3, a4, a5, a6, a7, a8, a9, a10⟩ := mr_all hT f
    have a11 := mr_Plain hT a6
    exact ⟨mr_Part hT a5, mr_TermR hT a1 a2, mr_Term hT a1 a2, mr_SumR hT a3 a4, mr_Sum hT a3 a4, mr_PlainL hT a5 a10 a6, mr_BothR hT a11 a7, mr_Both hT a11 a7, mr_TestR hT a8 a9, mr_Test hT a8 a9⟩
end MRE
