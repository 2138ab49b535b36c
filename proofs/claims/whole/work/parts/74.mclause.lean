/-! ===== the model reads clauses ===== -/
section MCL
variable {g : Gl} {M : Mem} {o N : Nat} {tc tv pl : Nat → Nat} {od : Bool} {f i lf cl : Nat} {b : Int32}
theorem mc_behindY {w : Nat} (hT : TkOK M o N tc tv pl od) (hf : 12 * N + 6 ≤ f) (hi : i ≤ N) (hlf : lf ≤ 50) (h : tc i = w) (hw : w ≠ 0) : Cv g Y_Mo_readBehind 200 [.ref o, .int (nI w)] (rdM M o i lf (-1)) (fun M2 => rdQ M o pl (psr tc tv od f 4 0 (i + 1) lf cl) M2) := by
  have to0 := hT.1.1
  have hiN := hT.2.2.1 i (by omega)
  have hal := mr_all (g := g) hT f
  refine cw_entry 0 pf_Mo_readBehind rfl ?_
  refine wp_aload_n rfl (ck_get kk_Mo_readBehind 0 rfl) ?_
  refine wp_iload_n rfl (ck_get kk_Mo_readBehind 1 rfl) ?_
  refine wp_cV1v (ck_get kk_Mo_readBehind 2 rfl) ml_Mo_224 (by omega) (Nat.le_of_ble_eq_true rfl) (by assumption) (Cv.to (m_mustY hT hi h) ?_)
  rintro M₁ rfl
  refine wp_aload_n rfl (ck_get kk_Mo_readBehind 3 rfl) ?_
  refine wp_iconst (v := nI 0) (by decide) (ck_get kk_Mo_readBehind 4 rfl) ?_
  refine wp_cV1v (ck_get kk_Mo_readBehind 5 rfl) ml_Mo_220 (by omega) (Nat.le_of_ble_eq_true rfl) (by assumption) (Cv.to (hal.2.2.2.2.1 0 (i + 1) lf cl (by omega) (by omega) hlf (by omega)) ?_)
  rintro M₁ hq₁
  refine wp_return (ck_get kk_Mo_readBehind 6 rfl) rfl ⟨rfl, ?_⟩
  exact hq₁
theorem mc_behindN {w : Nat} (hT : TkOK M o N tc tv pl od) (hi : i ≤ N) (h : ¬ tc i = w) (hw : w < 1000) : Cv g Y_Mo_readBehind 200 [.ref o, .int (nI w)] (rdM M o i lf (-1)) (fun M2 => M2 = rdM M o i lf (nI (pl i))) := by
  have to0 := hT.1.1
  refine cw_entry 0 pf_Mo_readBehind rfl ?_
  refine wp_aload_n rfl (ck_get kk_Mo_readBehind 0 rfl) ?_
  refine wp_iload_n rfl (ck_get kk_Mo_readBehind 1 rfl) ?_
  refine wp_cV1v (ck_get kk_Mo_readBehind 2 rfl) ml_Mo_224 (by omega) (Nat.le_of_ble_eq_true rfl) (by assumption) (Cv.to (m_mustN hT hi h hw) ?_)
  rintro M₁ rfl
  refine wp_aload_n rfl (ck_get kk_Mo_readBehind 3 rfl) ?_
  refine wp_iconst (v := nI 0) (by decide) (ck_get kk_Mo_readBehind 4 rfl) ?_
  refine wp_cV1v (ck_get kk_Mo_readBehind 5 rfl) ml_Mo_220 (by omega) (Nat.le_of_ble_eq_true rfl) (by assumption) (Cv.to (mb_Sum (n := 8) hT.1 (nI_m1 (hT.2.2.2.2.1 i)) (by omega)) ?_)
  rintro M₁ rfl
  refine wp_return (ck_get kk_Mo_readBehind 6 rfl) rfl ⟨rfl, ?_⟩
  rfl
theorem mc_behindB {w : Nat} (hM : MoAt (mT M) (mR M) o) (hb : ¬ b = -1) : Cv g Y_Mo_readBehind 200 [.ref o, .int (nI w)] (rdM M o i lf b) (fun M2 => M2 = rdM M o i lf b) := by
  have to0 := hM.1
  refine cw_entry 0 pf_Mo_readBehind rfl ?_
  refine wp_aload_n rfl (ck_get kk_Mo_readBehind 0 rfl) ?_
  refine wp_iload_n rfl (ck_get kk_Mo_readBehind 1 rfl) ?_
  refine wp_cV1v (ck_get kk_Mo_readBehind 2 rfl) ml_Mo_224 (by omega) (Nat.le_of_ble_eq_true rfl) (by assumption) (Cv.to (m_mustB hM hb) ?_)
  rintro M₁ rfl
  refine wp_aload_n rfl (ck_get kk_Mo_readBehind 3 rfl) ?_
  refine wp_iconst (v := nI 0) (by decide) (ck_get kk_Mo_readBehind 4 rfl) ?_
  refine wp_cV1v (ck_get kk_Mo_readBehind 5 rfl) ml_Mo_220 (by omega) (Nat.le_of_ble_eq_true rfl) (by assumption) (Cv.to (mb_Sum (n := 8) hM hb (by omega)) ?_)
  rintro M₁ rfl
  refine wp_return (ck_get kk_Mo_readBehind 6 rfl) rfl ⟨rfl, ?_⟩
  rfl
theorem mc_83 (hT : TkOK M o N tc tv pl od) (hf : 12 * N + 6 ≤ f) (hi : i ≤ N) (hlf : lf ≤ 50) : Wp g Y_Mo_readOrder 210 83 [some (.ref o)] [] (rdM M o i lf (-1)) (fun r M2 => r = none ∧ rdQ M o pl (pIf tc tv od f i lf cl) M2) := by
  have to0 := hT.1.1
  have hal := mr_all (g := g) hT f
  unfold pIf
  by_cases h0 : tc i = 3
  · have hiN := hT.2.2.1 i (by omega)
    rw [if_pos h0]
    refine wp_aload_n rfl (ck_get kk_Mo_readOrder 40 rfl) ?_
    refine wp_iconst (v := nI 3) (by decide) (ck_get kk_Mo_readOrder 41 rfl) ?_
    refine wp_cV1i (ck_get kk_Mo_readOrder 42 rfl) ml_Mo_211 (by omega) (Nat.le_of_ble_eq_true rfl) (by assumption) (Ci.to (m_takesY hT hi h0) ?_)
    rintro _ M1 ⟨rfl, eqm1⟩
    obtain rfl := eqm1.symm
    first | refine wp_if_eqN (t := 96) (ck_get kk_Mo_readOrder 43 rfl) (by decide) (by omega) (fun hc88 => ?_) (fun hc88 => ?_) | refine wp_if_eq (t := 96) (ck_get kk_Mo_readOrder 43 rfl) (by decide) (fun hc88 => ?_) (fun hc88 => ?_)
    · omega
    · refine wp_aload_n rfl (ck_get kk_Mo_readOrder 44 rfl) ?_
      refine wp_iconst (v := nI 0) (by decide) (ck_get kk_Mo_readOrder 45 rfl) ?_
      refine wp_cV1v (ck_get kk_Mo_readOrder 46 rfl) ml_Mo_227 (by omega) (Nat.le_of_ble_eq_true rfl) (by assumption) (Cv.to (hal.2.2.2.2.2.2.2.2.2 0 (i + 1) lf cl (by omega) (by omega) hlf (by omega)) ?_)
      rintro M₁ hq₁
      refine wp_return (ck_get kk_Mo_readOrder 47 rfl) rfl ⟨rfl, ?_⟩
      exact hq₁.pb (F := fun sg => sg ++ [nI 0, nI 0])
  · rw [if_neg h0]
    refine wp_aload_n rfl (ck_get kk_Mo_readOrder 40 rfl) ?_
    refine wp_iconst (v := nI 3) (by decide) (ck_get kk_Mo_readOrder 41 rfl) ?_
    refine wp_cV1i (ck_get kk_Mo_readOrder 42 rfl) ml_Mo_211 (by omega) (Nat.le_of_ble_eq_true rfl) (by assumption) (Ci.to (m_takesN hT hi h0 (by omega)) ?_)
    rintro _ M1 ⟨rfl, eqm1⟩
    obtain rfl := eqm1.symm
    first | refine wp_if_eqN (t := 96) (ck_get kk_Mo_readOrder 43 rfl) (by decide) (by omega) (fun hc88 => ?_) (fun hc88 => ?_) | refine wp_if_eq (t := 96) (ck_get kk_Mo_readOrder 43 rfl) (by decide) (fun hc88 => ?_) (fun hc88 => ?_)
    · refine wp_return (ck_get kk_Mo_readOrder 47 rfl) rfl ⟨rfl, ?_⟩
      exact rdQ.yes
    · omega
theorem mc_83B (hM : MoAt (mT M) (mR M) o) (hb : ¬ b = -1) : Wp g Y_Mo_readOrder 210 83 [some (.ref o)] [] (rdM M o i lf b) (fun r M2 => r = none ∧ M2 = rdM M o i lf b) := by
  have to0 := hM.1
  refine wp_aload_n rfl (ck_get kk_Mo_readOrder 40 rfl) ?_
  refine wp_iconst (v := nI 3) (by decide) (ck_get kk_Mo_readOrder 41 rfl) ?_
  refine wp_cV1i (ck_get kk_Mo_readOrder 42 rfl) ml_Mo_211 (by omega) (Nat.le_of_ble_eq_true rfl) (by assumption) (Ci.to (m_takesB hM hb) ?_)
  rintro _ M1 ⟨rfl, eqm1⟩
  obtain rfl := eqm1.symm
  first | refine wp_if_eqN (t := 96) (ck_get kk_Mo_readOrder 43 rfl) (by decide) (by omega) (fun hc88 => ?_) (fun hc88 => ?_) | refine wp_if_eq (t := 96) (ck_get kk_Mo_readOrder 43 rfl) (by decide) (fun hc88 => ?_) (fun hc88 => ?_)
  · refine wp_return (ck_get kk_Mo_readOrder 47 rfl) rfl ⟨rfl, ?_⟩
    rfl
  · omega
theorem mc_67 (hT : TkOK M o N tc tv pl od) (hf : 12 * N + 6 ≤ f) (hi : i ≤ N) (hlf : lf ≤ 50) : Wp g Y_Mo_readOrder 210 67 [some (.ref o)] [] (rdM M o i lf (-1)) (fun r M2 => r = none ∧ rdQ M o pl (pbd (pTm tc tv i lf) (fun j l _ => pIf tc tv od f j l cl)) M2) := by
  have to0 := hT.1.1
  have hpl := hT.2.2.2.2.1
  unfold pTm
  by_cases h0 : tc i = 23
  · have hiN := hT.2.2.1 i (by omega)
    rw [if_pos h0]
    by_cases h1 : tc (i + 1) = 50 ∧ 1 ≤ tv (i + 1) ∧ tv (i + 1) ≤ 20
    · have hiN2 := hT.2.2.1 (i + 1) (by omega)
      rw [if_pos h1, pbd_y]
      refine wp_aload_n rfl (ck_get kk_Mo_readOrder 32 rfl) ?_
      refine wp_bipush (v := nI 23) (by decide) (ck_get kk_Mo_readOrder 33 rfl) ?_
      refine wp_cV1i (ck_get kk_Mo_readOrder 34 rfl) ml_Mo_211 (by omega) (Nat.le_of_ble_eq_true rfl) (by assumption) (Ci.to (m_takesY hT hi h0) ?_)
      rintro _ M1 ⟨rfl, eqm1⟩
      obtain rfl := eqm1.symm
      first | refine wp_if_eqN (t := 83) (ck_get kk_Mo_readOrder 35 rfl) (by decide) (by omega) (fun hc73 => ?_) (fun hc73 => ?_) | refine wp_if_eq (t := 83) (ck_get kk_Mo_readOrder 35 rfl) (by decide) (fun hc73 => ?_) (fun hc73 => ?_)
      · omega
      · refine wp_aload_n rfl (ck_get kk_Mo_readOrder 36 rfl) ?_
        refine wp_iconst (v := nI 1) (by decide) (ck_get kk_Mo_readOrder 37 rfl) ?_
        refine wp_bipush (v := nI 20) (by decide) (ck_get kk_Mo_readOrder 38 rfl) ?_
        refine wp_cV2v (ck_get kk_Mo_readOrder 39 rfl) ml_Mo_233 (by omega) (Nat.le_of_ble_eq_true rfl) (by assumption) (Cv.to (m_numY hT (by omega) h1.1 h1.2.1 h1.2.2 (by omega)) ?_)
        rintro M₁ rfl
        exact mc_83 hT hf (by omega) hlf
    · rw [if_neg h1, pbd_n]
      refine wp_aload_n rfl (ck_get kk_Mo_readOrder 32 rfl) ?_
      refine wp_bipush (v := nI 23) (by decide) (ck_get kk_Mo_readOrder 33 rfl) ?_
      refine wp_cV1i (ck_get kk_Mo_readOrder 34 rfl) ml_Mo_211 (by omega) (Nat.le_of_ble_eq_true rfl) (by assumption) (Ci.to (m_takesY hT hi h0) ?_)
      rintro _ M1 ⟨rfl, eqm1⟩
      obtain rfl := eqm1.symm
      first | refine wp_if_eqN (t := 83) (ck_get kk_Mo_readOrder 35 rfl) (by decide) (by omega) (fun hc73 => ?_) (fun hc73 => ?_) | refine wp_if_eq (t := 83) (ck_get kk_Mo_readOrder 35 rfl) (by decide) (fun hc73 => ?_) (fun hc73 => ?_)
      · omega
      · refine wp_aload_n rfl (ck_get kk_Mo_readOrder 36 rfl) ?_
        refine wp_iconst (v := nI 1) (by decide) (ck_get kk_Mo_readOrder 37 rfl) ?_
        refine wp_bipush (v := nI 20) (by decide) (ck_get kk_Mo_readOrder 38 rfl) ?_
        refine wp_cV2v (ck_get kk_Mo_readOrder 39 rfl) ml_Mo_233 (by omega) (Nat.le_of_ble_eq_true rfl) (by assumption) (Cv.to (m_numN hT (by omega) h1 (by omega) (by omega)) ?_)
        rintro M₁ rfl
        refine Wp.mono (mc_83B hT.1 (nI_m1 (hpl (i + 1)))) ?_
        rintro r₂ M₂ ⟨hr₂, rfl⟩
        exact ⟨hr₂, rdQ.no⟩
  · rw [if_neg h0, pbd_y]
    refine wp_aload_n rfl (ck_get kk_Mo_readOrder 32 rfl) ?_
    refine wp_bipush (v := nI 23) (by decide) (ck_get kk_Mo_readOrder 33 rfl) ?_
    refine wp_cV1i (ck_get kk_Mo_readOrder 34 rfl) ml_Mo_211 (by omega) (Nat.le_of_ble_eq_true rfl) (by assumption) (Ci.to (m_takesN hT hi h0 (by omega)) ?_)
    rintro _ M1 ⟨rfl, eqm1⟩
    obtain rfl := eqm1.symm
    first | refine wp_if_eqN (t := 83) (ck_get kk_Mo_readOrder 35 rfl) (by decide) (by omega) (fun hc73 => ?_) (fun hc73 => ?_) | refine wp_if_eq (t := 83) (ck_get kk_Mo_readOrder 35 rfl) (by decide) (fun hc73 => ?_) (fun hc73 => ?_)
    · exact mc_83 hT hf hi hlf
    · omega
theorem mc_67B (hM : MoAt (mT M) (mR M) o) (hb : ¬ b = -1) : Wp g Y_Mo_readOrder 210 67 [some (.ref o)] [] (rdM M o i lf b) (fun r M2 => r = none ∧ M2 = rdM M o i lf b) := by
  have to0 := hM.1
  refine wp_aload_n rfl (ck_get kk_Mo_readOrder 32 rfl) ?_
  refine wp_bipush (v := nI 23) (by decide) (ck_get kk_Mo_readOrder 33 rfl) ?_
  refine wp_cV1i (ck_get kk_Mo_readOrder 34 rfl) ml_Mo_211 (by omega) (Nat.le_of_ble_eq_true rfl) (by assumption) (Ci.to (m_takesB hM hb) ?_)
  rintro _ M1 ⟨rfl, eqm1⟩
  obtain rfl := eqm1.symm
  first | refine wp_if_eqN (t := 83) (ck_get kk_Mo_readOrder 35 rfl) (by decide) (by omega) (fun hc73 => ?_) (fun hc73 => ?_) | refine wp_if_eq (t := 83) (ck_get kk_Mo_readOrder 35 rfl) (by decide) (fun hc73 => ?_) (fun hc73 => ?_)
  · exact mc_83B hM hb
  · omega
theorem mc_67F {j l : Nat} {sg : List Int32} (hT : TkOK M o N tc tv pl od) {r : PRes} (hr : r = (false, j, l, sg)) : Wp g Y_Mo_readOrder 210 67 [some (.ref o)] [] (rdM M o i lf (nI (pl j))) (fun q M2 => q = none ∧ rdQ M o pl r M2) := by
  refine Wp.mono (mc_67B hT.1 (nI_m1 (hT.2.2.2.2.1 j))) ?_
  rintro r₂ M₂ ⟨hr₂, rfl⟩
  rw [hr]
  exact ⟨hr₂, rdQ.no⟩
/-- behind "by": the pure parser's steps -/
theorem pBy_seq {k : Nat → Nat → Nat → PRes} (s0 : List Int32) (h18 : tc i = 18) : pbd (pBy tc tv od f i lf cl) (fun j l sg => pbd (k j l sg.length) (fun j2 l2 sg2 => (true, j2, l2, s0 ++ (sg ++ sg2)))) = pbd (psr tc tv od f 4 0 (i + 1) lf cl) (fun j l s => pbd (pTm tc tv j l) (fun j2 l2 s2 => pbd (k j2 l2 ((s ++ [nI 0, nI 0]) ++ s2).length) (fun j3 l3 sg3 => (true, j3, l3, s0 ++ (((s ++ [nI 0, nI 0]) ++ s2) ++ sg3))))) := by
  unfold pBy pSm
  rw [if_pos h18]
  generalize psr tc tv od f 4 0 (i + 1) lf cl = r
  obtain ⟨x, j, l, s⟩ := r
  cases x with
  | false => rfl
  | true =>
    show pbd (pbd (pTm tc tv j l) _) _ = pbd (pTm tc tv j l) _
    generalize pTm tc tv j l = r2
    obtain ⟨x2, j2, l2, s2⟩ := r2
    cases x2 <;> rfl
end MCL
