/-! ===== the model reads clauses ===== -/
section MCL
variable {g : Gl} {M : Mem} {o N : Nat} {tc tv pl : Nat → Nat} {od : Bool} {f i lf cl : Nat} {b : Int32}
theorem mc_behindY {w : Nat} (hT : TkOK M o N tc tv pl od) (hf : 12 * N + 6 ≤ f) (hi : i ≤ N) (hlf : lf ≤ 50) (h : tc i = w) (hw : w ≠ 0) : Cv g Y_Mo_readBehind 200 [.ref o, .int (nI w)] (rdM M o i lf (-1)) (fun M2 => rdQ M o pl (psr tc tv od f 4 0 (i + 1) lf cl) M2) := by
  have to0 := hT.1.1
  have hiN := hT.2.2.1 i (by omega)
  have hal := mr_all (g := g) hT f
  refine cw_entry 0 pf_Mo_readBehind rfl ?_
  refine wp_aload_n rfl (ck_get kk_Mo_readBehind 0 rfl) ?_
  refine wp_iload_n rfl (ck_get kk_Mo_readBehind 1 rfl) ?_
  refine wp_cV1v (ck_get kk_Mo_readBehind 2 rfl) ml_Mo_224 (by omega) (Nat.le_of_ble_eq_true rfl) (by assumption) (Cv.to (m_mustY hT hi h) ?_)
  rintro M₁ rfl
  refine wp_aload_n rfl (ck_get kk_Mo_readBehind 3 rfl) ?_
  refine wp_iconst (v := nI 0) (by decide) (ck_get kk_Mo_readBehind 4 rfl) ?_
  refine wp_cV1v (ck_get kk_Mo_readBehind 5 rfl) ml_Mo_220 (by omega) (Nat.le_of_ble_eq_true rfl) (by assumption) (Cv.to (hal.2.2.2.2.1 0 (i + 1) lf cl (by omega) (by omega) hlf (by omega)) ?_)
  rintro M₁ hq₁
  refine wp_return (ck_get kk_Mo_readBehind 6 rfl) rfl ⟨rfl, ?_⟩
  exact hq₁
theorem mc_behindN {w : Nat} (hT : TkOK M o N tc tv pl od) (hi : i ≤ N) (h : ¬ tc i = w) (hw : w < 1000) : Cv g Y_Mo_readBehind 200 [.ref o, .int (nI w)] (rdM M o i lf (-1)) (fun M2 => M2 = rdM M o i lf (nI (pl i))) := by
  have to0 := hT.1.1
  refine cw_entry 0 pf_Mo_readBehind rfl ?_
  refine wp_aload_n rfl (ck_get kk_Mo_readBehind 0 rfl) ?_
  refine wp_iload_n rfl (ck_get kk_Mo_readBehind 1 rfl) ?_
  refine wp_cV1v (ck_get kk_Mo_readBehind 2 rfl) ml_Mo_224 (by omega) (Nat.le_of_ble_eq_true rfl) (by assumption) (Cv.to (m_mustN hT hi h hw) ?_)
  rintro M₁ rfl
  refine wp_aload_n rfl (ck_get kk_Mo_readBehind 3 rfl) ?_
  refine wp_iconst (v := nI 0) (by decide) (ck_get kk_Mo_readBehind 4 rfl) ?_
  refine wp_cV1v (ck_get kk_Mo_readBehind 5 rfl) ml_Mo_220 (by omega) (Nat.le_of_ble_eq_true rfl) (by assumption) (Cv.to (mb_Sum (n := 8) hT.1 (nI_m1 (hT.2.2.2.2.1 i)) (by omega)) ?_)
  rintro M₁ rfl
  refine wp_return (ck_get kk_Mo_readBehind 6 rfl) rfl ⟨rfl, ?_⟩
  rfl
theorem mc_behindB {w : Nat} (hM : MoAt (mT M) (mR M) o) (hb : ¬ b = -1) : Cv g Y_Mo_readBehind 200 [.ref o, .int (nI w)] (rdM M o i lf b) (fun M2 => M2 = rdM M o i lf b) := by
  have to0 := hM.1
  refine cw_entry 0 pf_Mo_readBehind rfl ?_
  refine wp_aload_n rfl (ck_get kk_Mo_readBehind 0 rfl) ?_
  refine wp_iload_n rfl (ck_get kk_Mo_readBehind 1 rfl) ?_
  refine wp_cV1v (ck_get kk_Mo_readBehind 2 rfl) ml_Mo_224 (by omega) (Nat.le_of_ble_eq_true rfl) (by assumption) (Cv.to (m_mustB hM hb) ?_)
  rintro M₁ rfl
  refine wp_aload_n rfl (ck_get kk_Mo_readBehind 3 rfl) ?_
  refine wp_iconst (v := nI 0) (by decide) (ck_get kk_Mo_readBehind 4 rfl) ?_
  refine wp_cV1v (ck_get kk_Mo_readBehind 5 rfl) ml_Mo_220 (by omega) (Nat.le_of_ble_eq_true rfl) (by assumption) (Cv.to (mb_Sum (n := 8) hM hb (by omega)) ?_)
  rintro M₁ rfl
  refine wp_return (ck_get kk_Mo_readBehind 6 rfl) rfl ⟨rfl, ?_⟩
  rfl
theorem mc_83 (hT : TkOK M o N tc tv pl od) (hf : 12 * N + 6 ≤ f) (hi : i ≤ N) (hlf : lf ≤ 50) : Wp g Y_Mo_readOrder 210 83 [some (.ref o)] [] (rdM M o i lf (-1)) (fun r M2 => r = none ∧ rdQ M o pl (pIf tc tv od f i lf cl) M2) := by
  have to0 := hT.1.1
  have hal := mr_all (g := g) hT f
  unfold pIf
  by_cases h0 : tc i = 3
  · have hiN := hT.2.2.1 i (by omega)
    rw [if_pos h0]
    refine wp_aload_n rfl (ck_get kk_Mo_readOrder 40 rfl) ?_
    refine wp_iconst (v := nI 3) (by decide) (ck_get kk_Mo_readOrder 41 rfl) ?_
    refine wp_cV1i (ck_get kk_Mo_readOrder 42 rfl) ml_Mo_211 (by omega) (Nat.le_of_ble_eq_true rfl) (by assumption) (Ci.to (m_takesY hT hi h0) ?_)
    rintro _ M1 ⟨rfl, eqm1⟩
    obtain rfl := eqm1.symm
    first | refine wp_if_eqN (t := 96) (ck_get kk_Mo_readOrder 43 rfl) (by decide) (by omega) (fun hc88 => ?_) (fun hc88 => ?_) | refine wp_if_eq (t := 96) (ck_get kk_Mo_readOrder 43 rfl) (by decide) (fun hc88 => ?_) (fun hc88 => ?_)
    · omega
    · refine wp_aload_n rfl (ck_get kk_Mo_readOrder 44 rfl) ?_
      refine wp_iconst (v := nI 0) (by decide) (ck_get kk_Mo_readOrder 45 rfl) ?_
      refine wp_cV1v (ck_get kk_Mo_readOrder 46 rfl) ml_Mo_227 (by omega) (Nat.le_of_ble_eq_true rfl) (by assumption) (Cv.to (hal.2.2.2.2.2.2.2.2.2 0 (i + 1) lf cl (by omega) (by omega) hlf (by omega)) ?_)
      rintro M₁ hq₁
      refine wp_return (ck_get kk_Mo_readOrder 47 rfl) rfl ⟨rfl, ?_⟩
      exact hq₁.pb (F := fun sg => sg ++ [nI 0, nI 0])
  · rw [if_neg h0]
    refine wp_aload_n rfl (ck_get kk_Mo_readOrder 40 rfl) ?_
    refine wp_iconst (v := nI 3) (by decide) (ck_get kk_Mo_readOrder 41 rfl) ?_
    refine wp_cV1i (ck_get kk_Mo_readOrder 42 rfl) ml_Mo_211 (by omega) (Nat.le_of_ble_eq_true rfl) (by assumption) (Ci.to (m_takesN hT hi h0 (by omega)) ?_)
    rintro _ M1 ⟨rfl, eqm1⟩
    obtain rfl := eqm1.symm
    first | refine wp_if_eqN (t := 96) (ck_get kk_Mo_readOrder 43 rfl) (by decide) (by omega) (fun hc88 => ?_) (fun hc88 => ?_) | refine wp_if_eq (t := 96) (ck_get kk_Mo_readOrder 43 rfl) (by decide) (fun hc88 => ?_) (fun hc88 => ?_)
    · refine wp_return (ck_get kk_Mo_readOrder 47 rfl) rfl ⟨rfl, ?_⟩
      exact rdQ.yes
    · omega
theorem mc_83B (hM : MoAt (mT M) (mR M) o) (hb : ¬ b = -1) : Wp g Y_Mo_readOrder 210 83 [some (.ref o)] [] (rdM M o i lf b) (fun r M2 => r = none ∧ M2 = rdM M o i lf b) := by
  have to0 := hM.1
  refine wp_aload_n rfl (ck_get kk_Mo_readOrder 40 rfl) ?_
  refine wp_iconst (v := nI 3) (by decide) (ck_get kk_Mo_readOrder 41 rfl) ?_
  refine wp_cV1i (ck_get kk_Mo_readOrder 42 rfl) ml_Mo_211 (by omega) (Nat.le_of_ble_eq_true rfl) (by assumption) (Ci.to (m_takesB hM hb) ?_)
  rintro _ M1 ⟨rfl, eqm1⟩
  obtain rfl := eqm1.symm
  first | refine wp_if_eqN (t := 96) (ck_get kk_Mo_readOrder 43 rfl) (by decide) (by omega) (fun hc88 => ?_) (fun hc88 => ?_) | refine wp_if_eq (t := 96) (ck_get kk_Mo_readOrder 43 rfl) (by decide) (fun hc88 => ?_) (fun hc88 => ?_)
  · refine wp_return (ck_get kk_Mo_readOrder 47 rfl) rfl ⟨rfl, ?_⟩
    rfl
  · omega
theorem mc_67 (hT : TkOK M o N tc tv pl od) (hf : 12 * N + 6 ≤ f) (hi : i ≤ N) (hlf : lf ≤ 50) : Wp g Y_Mo_readOrder 210 67 [some (.ref o)] [] (rdM M o i lf (-1)) (fun r M2 => r = none ∧ rdQ M o pl (pbd (pTm tc tv i lf) (fun j l _ => pIf tc tv od f j l cl)) M2) := by
  have to0 := hT.1.1
  have hpl := hT.2.2.2.2.1
  unfold pTm
  by_cases h0 : tc i = 23
  · have hiN := hT.2.2.1 i (by omega)
    rw [if_pos h0]
    by_cases h1 : tc (i + 1) = 50 ∧ 1 ≤ tv (i + 1) ∧ tv (i + 1) ≤ 20
    · have hiN2 := hT.2.2.1 (i + 1) (by omega)
      rw [if_pos h1, pbd_y]
      refine wp_aload_n rfl (ck_get kk_Mo_readOrder 32 rfl) ?_
      refine wp_bipush (v := nI 23) (by decide) (ck_get kk_Mo_readOrder 33 rfl) ?_
      refine wp_cV1i (ck_get kk_Mo_readOrder 34 rfl) ml_Mo_211 (by omega) (Nat.le_of_ble_eq_true rfl) (by assumption) (Ci.to (m_takesY hT hi h0) ?_)
      rintro _ M1 ⟨rfl, eqm1⟩
      obtain rfl := eqm1.symm
      first | refine wp_if_eqN (t := 83) (ck_get kk_Mo_readOrder 35 rfl) (by decide) (by omega) (fun hc73 => ?_) (fun hc73 => ?_) | refine wp_if_eq (t := 83) (ck_get kk_Mo_readOrder 35 rfl) (by decide) (fun hc73 => ?_) (fun hc73 => ?_)
      · omega
      · refine wp_aload_n rfl (ck_get kk_Mo_readOrder 36 rfl) ?_
        refine wp_iconst (v := nI 1) (by decide) (ck_get kk_Mo_readOrder 37 rfl) ?_
        refine wp_bipush (v := nI 20) (by decide) (ck_get kk_Mo_readOrder 38 rfl) ?_
        refine wp_cV2v (ck_get kk_Mo_readOrder 39 rfl) ml_Mo_233 (by omega) (Nat.le_of_ble_eq_true rfl) (by assumption) (Cv.to (m_numY hT (by omega) h1.1 h1.2.1 h1.2.2 (by omega)) ?_)
        rintro M₁ rfl
        exact mc_83 hT hf (by omega) hlf
    · rw [if_neg h1, pbd_n]
      refine wp_aload_n rfl (ck_get kk_Mo_readOrder 32 rfl) ?_
      refine wp_bipush (v := nI 23) (by decide) (ck_get kk_Mo_readOrder 33 rfl) ?_
      refine wp_cV1i (ck_get kk_Mo_readOrder 34 rfl) ml_Mo_211 (by omega) (Nat.le_of_ble_eq_true rfl) (by assumption) (Ci.to (m_takesY hT hi h0) ?_)
      rintro _ M1 ⟨rfl, eqm1⟩
      obtain rfl := eqm1.symm
      first | refine wp_if_eqN (t := 83) (ck_get kk_Mo_readOrder 35 rfl) (by decide) (by omega) (fun hc73 => ?_) (fun hc73 => ?_) | refine wp_if_eq (t := 83) (ck_get kk_Mo_readOrder 35 rfl) (by decide) (fun hc73 => ?_) (fun hc73 => ?_)
      · omega
      · refine wp_aload_n rfl (ck_get kk_Mo_readOrder 36 rfl) ?_
        refine wp_iconst (v := nI 1) (by decide) (ck_get kk_Mo_readOrder 37 rfl) ?_
        refine wp_bipush (v := nI 20) (by decide) (ck_get kk_Mo_readOrder 38 rfl) ?_
        refine wp_cV2v (ck_get kk_Mo_readOrder 39 rfl) ml_Mo_233 (by omega) (Nat.le_of_ble_eq_true rfl) (by assumption) (Cv.to (m_numN hT (by omega) h1 (by omega) (by omega)) ?_)
        rintro M₁ rfl
        refine Wp.mono (mc_83B hT.1 (nI_m1 (hpl (i + 1)))) ?_
        rintro r₂ M₂ ⟨hr₂, rfl⟩
        exact ⟨hr₂, rdQ.no⟩
  · rw [if_neg h0, pbd_y]
    refine wp_aload_n rfl (ck_get kk_Mo_readOrder 32 rfl) ?_
    refine wp_bipush (v := nI 23) (by decide) (ck_get kk_Mo_readOrder 33 rfl) ?_
    refine wp_cV1i (ck_get kk_Mo_readOrder 34 rfl) ml_Mo_211 (by omega) (Nat.le_of_ble_eq_true rfl) (by assumption) (Ci.to (m_takesN hT hi h0 (by omega)) ?_)
    rintro _ M1 ⟨rfl, eqm1⟩
    obtain rfl := eqm1.symm
    first | refine wp_if_eqN (t := 83) (ck_get kk_Mo_readOrder 35 rfl) (by decide) (by omega) (fun hc73 => ?_) (fun hc73 => ?_) | refine wp_if_eq (t := 83) (ck_get kk_Mo_readOrder 35 rfl) (by decide) (fun hc73 => ?_) (fun hc73 => ?_)
    · exact mc_83 hT hf hi hlf
    · omega
theorem mc_67B (hM : MoAt (mT M) (mR M) o) (hb : ¬ b = -1) : Wp g Y_Mo_readOrder 210 67 [some (.ref o)] [] (rdM M o i lf b) (fun r M2 => r = none ∧ M2 = rdM M o i lf b) := by
  have to0 := hM.1
  refine wp_aload_n rfl (ck_get kk_Mo_readOrder 32 rfl) ?_
  refine wp_bipush (v := nI 23) (by decide) (ck_get kk_Mo_readOrder 33 rfl) ?_
  refine wp_cV1i (ck_get kk_Mo_readOrder 34 rfl) ml_Mo_211 (by omega) (Nat.le_of_ble_eq_true rfl) (by assumption) (Ci.to (m_takesB hM hb) ?_)
  rintro _ M1 ⟨rfl, eqm1⟩
  obtain rfl := eqm1.symm
  first | refine wp_if_eqN (t := 83) (ck_get kk_Mo_readOrder 35 rfl) (by decide) (by omega) (fun hc73 => ?_) (fun hc73 => ?_) | refine wp_if_eq (t := 83) (ck_get kk_Mo_readOrder 35 rfl) (by decide) (fun hc73 => ?_) (fun hc73 => ?_)
  · exact mc_83B hM hb
  · omega
theorem mc_67F {j l : Nat} {sg : List Int32} (hT : TkOK M o N tc tv pl od) {r : PRes} (hr : r = (false, j, l, sg)) : Wp g Y_Mo_readOrder 210 67 [some (.ref o)] [] (rdM M o i lf (nI (pl j))) (fun q M2 => q = none ∧ rdQ M o pl r M2) := by
  refine Wp.mono (mc_67B hT.1 (nI_m1 (hT.2.2.2.2.1 j))) ?_
  rintro r₂ M₂ ⟨hr₂, rfl⟩
  rw [hr]
  exact ⟨hr₂, rdQ.no⟩
theorem mc_67K {X : List Int32 → Nat} {F : List Int32 → List Int32 → List Int32} (hT : TkOK M o N tc tv pl od) (hf : 12 * N + 6 ≤ f) (hi : i ≤ N) (hlf : lf ≤ 50) : Wp g Y_Mo_readOrder 210 67 [some (.ref o)] [] (rdM M o i lf (-1)) (fun r M2 => r = none ∧ rdQ M o pl (pbd (pTm tc tv i lf) (fun j l s => pbd (pIf tc tv od f j l (X s)) (fun j2 l2 s2 => (true, j2, l2, F s s2)))) M2) := by
  refine Wp.mono (mc_67 (cl := X []) hT hf hi hlf) ?_
  rintro r₂ M₂ ⟨hr₂, hq₂⟩
  refine ⟨hr₂, ?_⟩
  have e : pbd (pTm tc tv i lf) (fun j l s => pbd (pIf tc tv od f j l (X s)) (fun j2 l2 s2 => (true, j2, l2, F s s2))) = pbd (pbd (pTm tc tv i lf) (fun j l _ => pIf tc tv od f j l (X []))) (fun j2 l2 s2 => (true, j2, l2, F [] s2)) := by
    unfold pTm
    by_cases h0 : tc i = 23
    · rw [if_pos h0]
      by_cases h1 : tc (i + 1) = 50 ∧ 1 ≤ tv (i + 1) ∧ tv (i + 1) ≤ 20
      · rw [if_pos h1]; rfl
      · rw [if_neg h1]; rfl
    · rw [if_neg h0]; rfl
  rw [e]
  exact hq₂.pb
/-- behind "by": the pure parser's steps -/
theorem pBy_K {K : Nat → Nat → List Int32 → PRes} (h18 : tc i = 18) : pbd (pBy tc tv od f i lf cl) K = pbd (psr tc tv od f 4 0 (i + 1) lf cl) (fun j l s => pbd (pTm tc tv j l) (fun j2 l2 s2 => K j2 l2 ((s ++ [nI 0, nI 0]) ++ s2))) := by
  unfold pBy pSm
  rw [if_pos h18]
  generalize psr tc tv od f 4 0 (i + 1) lf cl = r
  obtain ⟨x, j, l, s⟩ := r
  cases x with
  | false => rfl
  | true =>
    show pbd (pbd (pTm tc tv j l) _) _ = pbd (pTm tc tv j l) _
    generalize pTm tc tv j l = r2
    obtain ⟨x2, j2, l2, s2⟩ := r2
    cases x2 <;> rfl
theorem mc_byY {Y : List Int32 → Nat} {F : List Int32 → List Int32 → List Int32} {M₁ : Mem} (hT : TkOK M o N tc tv pl od) (hf : 12 * N + 6 ≤ f) (hi : i ≤ N) (hlf : lf ≤ 50) (h18 : tc i = 18) (hq : rdQ M o pl (psr tc tv od f 4 0 (i + 1) lf cl) M₁) : Wp g Y_Mo_readOrder 210 67 [some (.ref o)] [] M₁ (fun r M2 => r = none ∧ rdQ M o pl (pbd (pBy tc tv od f i lf cl) (fun j2 l2 s2 => pbd (pIf tc tv od f j2 l2 (Y s2)) (fun j3 l3 s3 => (true, j3, l3, F s2 s3)))) M2) := by
  have hiN := hT.2.2.1 i (by omega)
  rw [pBy_K h18]
  rcases hq with ⟨j, l, s, hr, rfl⟩ | ⟨j, l, s, i2, lf3, hr, rfl⟩
  · obtain ⟨g1, g2, g3, g4, g5⟩ := psr_ok (N := N) hT.2.2.1 f 4 0 (i + 1) lf cl j l s (by omega) hr (by omega) hlf
    rw [hr, pbd_y]
    exact mc_67K (X := fun s2 => Y ((s ++ [nI 0, nI 0]) ++ s2)) (F := fun s2 s3 => F ((s ++ [nI 0, nI 0]) ++ s2) s3) hT hf g2 g3
  · exact mc_67F hT (by rw [hr, pbd_n])
theorem pBy_N {K : Nat → Nat → List Int32 → PRes} (h18 : ¬ tc i = 18) : pbd (pBy tc tv od f i lf cl) K = (false, i, lf, []) := by
  unfold pBy
  rw [if_neg h18]; rfl
theorem p1F_rd (h : tc i = 17 ∨ tc i = 21) : p1F tc tv true f i lf cl = pbd (psr tc tv true f 4 0 (i + 1) lf cl) (fun j l s => pbd (pBy tc tv true f j l (cl + (s ++ [nI 0, nI 0]).length)) (fun j2 l2 s2 => pbd (pIf tc tv true f j2 l2 (cl + ((s ++ [nI 0, nI 0]) ++ s2).length)) (fun j3 l3 s3 => (true, j3, l3, ((s ++ [nI 0, nI 0]) ++ s2) ++ s3)))) := by
  unfold p1F pOrd pSm
  rw [if_pos rfl, if_pos h]
  generalize psr tc tv true f 4 0 (i + 1) lf cl = r
  obtain ⟨x, j, l, s⟩ := r
  cases x with
  | false => rfl
  | true =>
    show pbd (pbd (pBy tc tv true f j l _) _) _ = pbd (pBy tc tv true f j l _) _
    generalize pBy tc tv true f j l _ = r2
    obtain ⟨x2, j2, l2, s2⟩ := r2
    cases x2 <;> rfl
theorem p1F_lp (h : tc i = 19) : p1F tc tv true f i lf cl = pbd (psr tc tv true f 4 0 (i + 1) lf cl) (fun j l s => if tc j = 20 then pbd (psr tc tv true f 4 0 (j + 1) l (cl + (s ++ [nI 0, nI 0]).length)) (fun j1 l1 s1 => pbd (pBy tc tv true f j1 l1 (cl + (s ++ [nI 0, nI 0]).length + (s1 ++ [nI 0, nI 0]).length)) (fun j2 l2 s2 => pbd (pIf tc tv true f j2 l2 (cl + ((s ++ [nI 0, nI 0]) ++ ((s1 ++ [nI 0, nI 0]) ++ s2)).length)) (fun j3 l3 s3 => (true, j3, l3, ((s ++ [nI 0, nI 0]) ++ ((s1 ++ [nI 0, nI 0]) ++ s2)) ++ s3)))) else (false, j, l, [])) := by
  unfold p1F pOrd pSm
  rw [if_pos rfl, if_neg (by omega), if_pos h]
  generalize psr tc tv true f 4 0 (i + 1) lf cl = r
  obtain ⟨x, j, l, s⟩ := r
  cases x with
  | false => rfl
  | true =>
    show pbd (pbd (if tc j = 20 then _ else _) _) _ = if tc j = 20 then _ else _
    by_cases h20 : tc j = 20
    · rw [if_pos h20, if_pos h20]
      generalize psr tc tv true f 4 0 (j + 1) l _ = r1
      obtain ⟨x1, j1, l1, s1⟩ := r1
      cases x1 with
      | false => rfl
      | true =>
        show pbd (pbd (pbd (pBy tc tv true f j1 l1 _) _) _) _ = pbd (pBy tc tv true f j1 l1 _) _
        generalize pBy tc tv true f j1 l1 _ = r2
        obtain ⟨x2, j2, l2, s2⟩ := r2
        cases x2 <;> rfl
    · rw [if_neg h20, if_neg h20]; rfl
theorem p1F_ps (h : tc i = 22) : p1F tc tv true f i lf cl = pbd (pTm tc tv (i + 1) lf) (fun j l s => pbd (pIf tc tv true f j l (cl + s.length)) (fun j2 l2 s2 => (true, j2, l2, s ++ s2))) := by
  unfold p1F pOrd
  rw [if_pos rfl, if_neg (by omega), if_neg (by omega), if_pos h]
theorem mc_order (hT : TkOK M o N tc tv pl true) (hf : 12 * N + 6 ≤ f) (hi : i ≤ N) (hlf : lf ≤ 50) : Cv g Y_Mo_readOrder 210 [.ref o] (rdM M o i lf (-1)) (fun M2 => rdQ M o pl (p1F tc tv true f i lf cl) M2) := by
  have to0 := hT.1.1
  have hal := mr_all (g := g) hT f
  have hpl := hT.2.2.2.2.1
  refine cw_entry 0 pf_Mo_readOrder rfl ?_
  -- a read or a drop behind its word
  have rd : tc i = 17 ∨ tc i = 21 → Wp g Y_Mo_readOrder 210 18 [some (.ref o)] [] (rdM M o (i + 1) lf (-1)) (fun r M2 => r = none ∧ rdQ M o pl (p1F tc tv true f i lf cl) M2) := by
    intro h
    have hiN := hT.2.2.1 i (by omega)
    rw [p1F_rd h]
    refine wp_aload_n rfl (ck_get kk_Mo_readOrder 8 rfl) ?_
    refine wp_iconst (v := nI 0) (by decide) (ck_get kk_Mo_readOrder 9 rfl) ?_
    refine wp_cV1v (ck_get kk_Mo_readOrder 10 rfl) ml_Mo_220 (by omega) (Nat.le_of_ble_eq_true rfl) (by assumption) (Cv.to (hal.2.2.2.2.1 0 (i + 1) lf cl (by omega) (by omega) hlf (by omega)) ?_)
    rintro M₁ hq₁
    rcases hq₁ with ⟨j, l, s, hr, rfl⟩ | ⟨j, l, s, i2, lf3, hr, rfl⟩
    · obtain ⟨g1, g2, g3, g4, g5⟩ := psr_ok (N := N) hT.2.2.1 f 4 0 (i + 1) lf cl j l s (by omega) hr (by omega) hlf
      rw [hr, pbd_y]
      by_cases h18 : tc j = 18
      · skip
        refine wp_aload_n rfl (ck_get kk_Mo_readOrder 11 rfl) ?_
        refine wp_bipush (v := nI 18) (by decide) (ck_get kk_Mo_readOrder 12 rfl) ?_
        refine wp_cV1v (ck_get kk_Mo_readOrder 13 rfl) ml_Mo_230 (by omega) (Nat.le_of_ble_eq_true rfl) (by assumption) (Cv.to (mc_behindY (cl := cl + (s ++ [nI 0, nI 0]).length) hT hf g2 g3 h18 (by omega)) ?_)
        rintro M₁ hq₂
        refine wp_goto (t := 67) (ck_get kk_Mo_readOrder 14 rfl) (by decide) ?_
        exact mc_byY (Y := fun s2 => cl + ((s ++ [nI 0, nI 0]) ++ s2).length) (F := fun s2 s3 => ((s ++ [nI 0, nI 0]) ++ s2) ++ s3) hT hf g2 g3 h18 hq₂
      · skip
        refine wp_aload_n rfl (ck_get kk_Mo_readOrder 11 rfl) ?_
        refine wp_bipush (v := nI 18) (by decide) (ck_get kk_Mo_readOrder 12 rfl) ?_
        refine wp_cV1v (ck_get kk_Mo_readOrder 13 rfl) ml_Mo_230 (by omega) (Nat.le_of_ble_eq_true rfl) (by assumption) (Cv.to (mc_behindN hT g2 h18 (by omega)) ?_)
        rintro M₁ rfl
        refine wp_goto (t := 67) (ck_get kk_Mo_readOrder 14 rfl) (by decide) ?_
        exact mc_67F hT (pBy_N h18)
    · skip
      refine wp_aload_n rfl (ck_get kk_Mo_readOrder 11 rfl) ?_
      refine wp_bipush (v := nI 18) (by decide) (ck_get kk_Mo_readOrder 12 rfl) ?_
      refine wp_cV1v (ck_get kk_Mo_readOrder 13 rfl) ml_Mo_230 (by omega) (Nat.le_of_ble_eq_true rfl) (by assumption) (Cv.to (mc_behindB hT.1 (nI_m1 (hpl j))) ?_)
      rintro M₁ rfl
      refine wp_goto (t := 67) (ck_get kk_Mo_readOrder 14 rfl) (by decide) ?_
      exact mc_67F hT (by rw [hr, pbd_n])
  by_cases h0 : tc i = 17
  · skip
    refine wp_aload_n rfl (ck_get kk_Mo_readOrder 0 rfl) ?_
    refine wp_bipush (v := nI 17) (by decide) (ck_get kk_Mo_readOrder 1 rfl) ?_
    refine wp_cV1i (ck_get kk_Mo_readOrder 2 rfl) ml_Mo_211 (by omega) (Nat.le_of_ble_eq_true rfl) (by assumption) (Ci.to (m_takesY hT hi h0) ?_)
    rintro _ M1 ⟨rfl, eqm1⟩
    obtain rfl := eqm1.symm
    first | refine wp_if_neN (t := 18) (ck_get kk_Mo_readOrder 3 rfl) (by decide) (by omega) (fun hc6 => ?_) (fun hc6 => ?_) | refine wp_if_ne (t := 18) (ck_get kk_Mo_readOrder 3 rfl) (by decide) (fun hc6 => ?_) (fun hc6 => ?_)
    · exact rd (by omega)
    · omega
  by_cases h1 : tc i = 21
  · skip
    refine wp_aload_n rfl (ck_get kk_Mo_readOrder 0 rfl) ?_
    refine wp_bipush (v := nI 17) (by decide) (ck_get kk_Mo_readOrder 1 rfl) ?_
    refine wp_cV1i (ck_get kk_Mo_readOrder 2 rfl) ml_Mo_211 (by omega) (Nat.le_of_ble_eq_true rfl) (by assumption) (Ci.to (m_takesN hT hi h0 (by omega)) ?_)
    rintro _ M1 ⟨rfl, eqm1⟩
    obtain rfl := eqm1.symm
    first | refine wp_if_neN (t := 18) (ck_get kk_Mo_readOrder 3 rfl) (by decide) (by omega) (fun hc6 => ?_) (fun hc6 => ?_) | refine wp_if_ne (t := 18) (ck_get kk_Mo_readOrder 3 rfl) (by decide) (fun hc6 => ?_) (fun hc6 => ?_)
    · omega
    · refine wp_aload_n rfl (ck_get kk_Mo_readOrder 4 rfl) ?_
      refine wp_bipush (v := nI 21) (by decide) (ck_get kk_Mo_readOrder 5 rfl) ?_
      refine wp_cV1i (ck_get kk_Mo_readOrder 6 rfl) ml_Mo_211 (by omega) (Nat.le_of_ble_eq_true rfl) (by assumption) (Ci.to (m_takesY hT hi h1) ?_)
      rintro _ M1 ⟨rfl, eqm1⟩
      obtain rfl := eqm1.symm
      first | refine wp_if_eqN (t := 32) (ck_get kk_Mo_readOrder 7 rfl) (by decide) (by omega) (fun hc15 => ?_) (fun hc15 => ?_) | refine wp_if_eq (t := 32) (ck_get kk_Mo_readOrder 7 rfl) (by decide) (fun hc15 => ?_) (fun hc15 => ?_)
      · omega
      · exact rd (by omega)
  by_cases h2 : tc i = 19
  · have hiN := hT.2.2.1 i (by omega)
    rw [p1F_lp h2]
    refine wp_aload_n rfl (ck_get kk_Mo_readOrder 0 rfl) ?_
    refine wp_bipush (v := nI 17) (by decide) (ck_get kk_Mo_readOrder 1 rfl) ?_
    refine wp_cV1i (ck_get kk_Mo_readOrder 2 rfl) ml_Mo_211 (by omega) (Nat.le_of_ble_eq_true rfl) (by assumption) (Ci.to (m_takesN hT hi h0 (by omega)) ?_)
    rintro _ M1 ⟨rfl, eqm1⟩
    obtain rfl := eqm1.symm
    first | refine wp_if_neN (t := 18) (ck_get kk_Mo_readOrder 3 rfl) (by decide) (by omega) (fun hc6 => ?_) (fun hc6 => ?_) | refine wp_if_ne (t := 18) (ck_get kk_Mo_readOrder 3 rfl) (by decide) (fun hc6 => ?_) (fun hc6 => ?_)
    · omega
    · refine wp_aload_n rfl (ck_get kk_Mo_readOrder 4 rfl) ?_
      refine wp_bipush (v := nI 21) (by decide) (ck_get kk_Mo_readOrder 5 rfl) ?_
      refine wp_cV1i (ck_get kk_Mo_readOrder 6 rfl) ml_Mo_211 (by omega) (Nat.le_of_ble_eq_true rfl) (by assumption) (Ci.to (m_takesN hT hi h1 (by omega)) ?_)
      rintro _ M1 ⟨rfl, eqm1⟩
      obtain rfl := eqm1.symm
      first | refine wp_if_eqN (t := 32) (ck_get kk_Mo_readOrder 7 rfl) (by decide) (by omega) (fun hc15 => ?_) (fun hc15 => ?_) | refine wp_if_eq (t := 32) (ck_get kk_Mo_readOrder 7 rfl) (by decide) (fun hc15 => ?_) (fun hc15 => ?_)
      · refine wp_aload_n rfl (ck_get kk_Mo_readOrder 15 rfl) ?_
        refine wp_bipush (v := nI 19) (by decide) (ck_get kk_Mo_readOrder 16 rfl) ?_
        refine wp_cV1i (ck_get kk_Mo_readOrder 17 rfl) ml_Mo_211 (by omega) (Nat.le_of_ble_eq_true rfl) (by assumption) (Ci.to (m_takesY hT hi h2) ?_)
        rintro _ M1 ⟨rfl, eqm1⟩
        obtain rfl := eqm1.symm
        first | refine wp_if_eqN (t := 61) (ck_get kk_Mo_readOrder 18 rfl) (by decide) (by omega) (fun hc38 => ?_) (fun hc38 => ?_) | refine wp_if_eq (t := 61) (ck_get kk_Mo_readOrder 18 rfl) (by decide) (fun hc38 => ?_) (fun hc38 => ?_)
        · omega
        · refine wp_aload_n rfl (ck_get kk_Mo_readOrder 19 rfl) ?_
          refine wp_iconst (v := nI 0) (by decide) (ck_get kk_Mo_readOrder 20 rfl) ?_
          refine wp_cV1v (ck_get kk_Mo_readOrder 21 rfl) ml_Mo_220 (by omega) (Nat.le_of_ble_eq_true rfl) (by assumption) (Cv.to (hal.2.2.2.2.1 0 (i + 1) lf cl (by omega) (by omega) hlf (by omega)) ?_)
          rintro M₁ hq₁
          rcases hq₁ with ⟨j, l, s, hr, rfl⟩ | ⟨j, l, s, i2, lf3, hr, rfl⟩
          · obtain ⟨g1, g2, g3, g4, g5⟩ := psr_ok (N := N) hT.2.2.1 f 4 0 (i + 1) lf cl j l s (by omega) hr (by omega) hlf
            rw [hr, pbd_y]
            by_cases h20 : tc j = 20
            · have hjN := hT.2.2.1 j (by omega)
              rw [if_pos h20]
              refine wp_aload_n rfl (ck_get kk_Mo_readOrder 22 rfl) ?_
              refine wp_bipush (v := nI 20) (by decide) (ck_get kk_Mo_readOrder 23 rfl) ?_
              refine wp_cV1v (ck_get kk_Mo_readOrder 24 rfl) ml_Mo_230 (by omega) (Nat.le_of_ble_eq_true rfl) (by assumption) (Cv.to (mc_behindY (cl := cl + (s ++ [nI 0, nI 0]).length) hT hf g2 g3 h20 (by omega)) ?_)
              rintro M₁ hq₂
              rcases hq₂ with ⟨j1, l1, s1, hr1, rfl⟩ | ⟨j1, l1, s1, i2, lf3, hr1, rfl⟩
              · obtain ⟨k1, k2, k3, k4, k5⟩ := psr_ok (N := N) hT.2.2.1 f 4 0 (j + 1) l _ j1 l1 s1 (by omega) hr1 (by omega) g3
                rw [hr1, pbd_y]
                by_cases h18 : tc j1 = 18
                · skip
                  refine wp_aload_n rfl (ck_get kk_Mo_readOrder 25 rfl) ?_
                  refine wp_bipush (v := nI 18) (by decide) (ck_get kk_Mo_readOrder 26 rfl) ?_
                  refine wp_cV1v (ck_get kk_Mo_readOrder 27 rfl) ml_Mo_230 (by omega) (Nat.le_of_ble_eq_true rfl) (by assumption) (Cv.to (mc_behindY (cl := cl + (s ++ [nI 0, nI 0]).length + (s1 ++ [nI 0, nI 0]).length) hT hf k2 k3 h18 (by omega)) ?_)
                  rintro M₁ hq₃
                  refine wp_goto (t := 67) (ck_get kk_Mo_readOrder 28 rfl) (by decide) ?_
                  exact mc_byY (Y := fun s2 => cl + ((s ++ [nI 0, nI 0]) ++ ((s1 ++ [nI 0, nI 0]) ++ s2)).length) (F := fun s2 s3 => ((s ++ [nI 0, nI 0]) ++ ((s1 ++ [nI 0, nI 0]) ++ s2)) ++ s3) hT hf k2 k3 h18 hq₃
                · skip
                  refine wp_aload_n rfl (ck_get kk_Mo_readOrder 25 rfl) ?_
                  refine wp_bipush (v := nI 18) (by decide) (ck_get kk_Mo_readOrder 26 rfl) ?_
                  refine wp_cV1v (ck_get kk_Mo_readOrder 27 rfl) ml_Mo_230 (by omega) (Nat.le_of_ble_eq_true rfl) (by assumption) (Cv.to (mc_behindN hT k2 h18 (by omega)) ?_)
                  rintro M₁ rfl
                  refine wp_goto (t := 67) (ck_get kk_Mo_readOrder 28 rfl) (by decide) ?_
                  exact mc_67F hT (pBy_N h18)
              · skip
                refine wp_aload_n rfl (ck_get kk_Mo_readOrder 25 rfl) ?_
                refine wp_bipush (v := nI 18) (by decide) (ck_get kk_Mo_readOrder 26 rfl) ?_
                refine wp_cV1v (ck_get kk_Mo_readOrder 27 rfl) ml_Mo_230 (by omega) (Nat.le_of_ble_eq_true rfl) (by assumption) (Cv.to (mc_behindB hT.1 (nI_m1 (hpl j1))) ?_)
                rintro M₁ rfl
                refine wp_goto (t := 67) (ck_get kk_Mo_readOrder 28 rfl) (by decide) ?_
                exact mc_67F hT (by rw [hr1, pbd_n])
            · rw [if_neg h20]
              refine wp_aload_n rfl (ck_get kk_Mo_readOrder 22 rfl) ?_
              refine wp_bipush (v := nI 20) (by decide) (ck_get kk_Mo_readOrder 23 rfl) ?_
              refine wp_cV1v (ck_get kk_Mo_readOrder 24 rfl) ml_Mo_230 (by omega) (Nat.le_of_ble_eq_true rfl) (by assumption) (Cv.to (mc_behindN hT g2 h20 (by omega)) ?_)
              rintro M₁ rfl
              refine wp_aload_n rfl (ck_get kk_Mo_readOrder 25 rfl) ?_
              refine wp_bipush (v := nI 18) (by decide) (ck_get kk_Mo_readOrder 26 rfl) ?_
              refine wp_cV1v (ck_get kk_Mo_readOrder 27 rfl) ml_Mo_230 (by omega) (Nat.le_of_ble_eq_true rfl) (by assumption) (Cv.to (mc_behindB hT.1 (nI_m1 (hpl j))) ?_)
              rintro M₁ rfl
              refine wp_goto (t := 67) (ck_get kk_Mo_readOrder 28 rfl) (by decide) ?_
              exact mc_67F hT rfl
          · skip
            refine wp_aload_n rfl (ck_get kk_Mo_readOrder 22 rfl) ?_
            refine wp_bipush (v := nI 20) (by decide) (ck_get kk_Mo_readOrder 23 rfl) ?_
            refine wp_cV1v (ck_get kk_Mo_readOrder 24 rfl) ml_Mo_230 (by omega) (Nat.le_of_ble_eq_true rfl) (by assumption) (Cv.to (mc_behindB hT.1 (nI_m1 (hpl j))) ?_)
            rintro M₁ rfl
            refine wp_aload_n rfl (ck_get kk_Mo_readOrder 25 rfl) ?_
            refine wp_bipush (v := nI 18) (by decide) (ck_get kk_Mo_readOrder 26 rfl) ?_
            refine wp_cV1v (ck_get kk_Mo_readOrder 27 rfl) ml_Mo_230 (by omega) (Nat.le_of_ble_eq_true rfl) (by assumption) (Cv.to (mc_behindB hT.1 (nI_m1 (hpl j))) ?_)
            rintro M₁ rfl
            refine wp_goto (t := 67) (ck_get kk_Mo_readOrder 28 rfl) (by decide) ?_
            exact mc_67F hT (by rw [hr, pbd_n])
      · omega
  by_cases h3 : tc i = 22
  · have hiN := hT.2.2.1 i (by omega)
    rw [p1F_ps h3]
    refine wp_aload_n rfl (ck_get kk_Mo_readOrder 0 rfl) ?_
    refine wp_bipush (v := nI 17) (by decide) (ck_get kk_Mo_readOrder 1 rfl) ?_
    refine wp_cV1i (ck_get kk_Mo_readOrder 2 rfl) ml_Mo_211 (by omega) (Nat.le_of_ble_eq_true rfl) (by assumption) (Ci.to (m_takesN hT hi h0 (by omega)) ?_)
    rintro _ M1 ⟨rfl, eqm1⟩
    obtain rfl := eqm1.symm
    first | refine wp_if_neN (t := 18) (ck_get kk_Mo_readOrder 3 rfl) (by decide) (by omega) (fun hc6 => ?_) (fun hc6 => ?_) | refine wp_if_ne (t := 18) (ck_get kk_Mo_readOrder 3 rfl) (by decide) (fun hc6 => ?_) (fun hc6 => ?_)
    · omega
    · refine wp_aload_n rfl (ck_get kk_Mo_readOrder 4 rfl) ?_
      refine wp_bipush (v := nI 21) (by decide) (ck_get kk_Mo_readOrder 5 rfl) ?_
      refine wp_cV1i (ck_get kk_Mo_readOrder 6 rfl) ml_Mo_211 (by omega) (Nat.le_of_ble_eq_true rfl) (by assumption) (Ci.to (m_takesN hT hi h1 (by omega)) ?_)
      rintro _ M1 ⟨rfl, eqm1⟩
      obtain rfl := eqm1.symm
      first | refine wp_if_eqN (t := 32) (ck_get kk_Mo_readOrder 7 rfl) (by decide) (by omega) (fun hc15 => ?_) (fun hc15 => ?_) | refine wp_if_eq (t := 32) (ck_get kk_Mo_readOrder 7 rfl) (by decide) (fun hc15 => ?_) (fun hc15 => ?_)
      · refine wp_aload_n rfl (ck_get kk_Mo_readOrder 15 rfl) ?_
        refine wp_bipush (v := nI 19) (by decide) (ck_get kk_Mo_readOrder 16 rfl) ?_
        refine wp_cV1i (ck_get kk_Mo_readOrder 17 rfl) ml_Mo_211 (by omega) (Nat.le_of_ble_eq_true rfl) (by assumption) (Ci.to (m_takesN hT hi h2 (by omega)) ?_)
        rintro _ M1 ⟨rfl, eqm1⟩
        obtain rfl := eqm1.symm
        first | refine wp_if_eqN (t := 61) (ck_get kk_Mo_readOrder 18 rfl) (by decide) (by omega) (fun hc38 => ?_) (fun hc38 => ?_) | refine wp_if_eq (t := 61) (ck_get kk_Mo_readOrder 18 rfl) (by decide) (fun hc38 => ?_) (fun hc38 => ?_)
        · refine wp_aload_n rfl (ck_get kk_Mo_readOrder 29 rfl) ?_
          refine wp_bipush (v := nI 22) (by decide) (ck_get kk_Mo_readOrder 30 rfl) ?_
          refine wp_cV1v (ck_get kk_Mo_readOrder 31 rfl) ml_Mo_224 (by omega) (Nat.le_of_ble_eq_true rfl) (by assumption) (Cv.to (m_mustY hT hi h3) ?_)
          rintro M₁ rfl
          exact mc_67K (X := fun s => cl + s.length) (F := fun s s2 => s ++ s2) hT hf (by omega) hlf
        · omega
      · omega
  · have e : p1F tc tv true f i lf cl = (false, i, lf, []) := by
      unfold p1F pOrd
      rw [if_pos rfl, if_neg (by omega), if_neg (by omega), if_neg (by omega)]; rfl
    refine wp_aload_n rfl (ck_get kk_Mo_readOrder 0 rfl) ?_
    refine wp_bipush (v := nI 17) (by decide) (ck_get kk_Mo_readOrder 1 rfl) ?_
    refine wp_cV1i (ck_get kk_Mo_readOrder 2 rfl) ml_Mo_211 (by omega) (Nat.le_of_ble_eq_true rfl) (by assumption) (Ci.to (m_takesN hT hi h0 (by omega)) ?_)
    rintro _ M1 ⟨rfl, eqm1⟩
    obtain rfl := eqm1.symm
    first | refine wp_if_neN (t := 18) (ck_get kk_Mo_readOrder 3 rfl) (by decide) (by omega) (fun hc6 => ?_) (fun hc6 => ?_) | refine wp_if_ne (t := 18) (ck_get kk_Mo_readOrder 3 rfl) (by decide) (fun hc6 => ?_) (fun hc6 => ?_)
    · omega
    · refine wp_aload_n rfl (ck_get kk_Mo_readOrder 4 rfl) ?_
      refine wp_bipush (v := nI 21) (by decide) (ck_get kk_Mo_readOrder 5 rfl) ?_
      refine wp_cV1i (ck_get kk_Mo_readOrder 6 rfl) ml_Mo_211 (by omega) (Nat.le_of_ble_eq_true rfl) (by assumption) (Ci.to (m_takesN hT hi h1 (by omega)) ?_)
      rintro _ M1 ⟨rfl, eqm1⟩
      obtain rfl := eqm1.symm
      first | refine wp_if_eqN (t := 32) (ck_get kk_Mo_readOrder 7 rfl) (by decide) (by omega) (fun hc15 => ?_) (fun hc15 => ?_) | refine wp_if_eq (t := 32) (ck_get kk_Mo_readOrder 7 rfl) (by decide) (fun hc15 => ?_) (fun hc15 => ?_)
      · refine wp_aload_n rfl (ck_get kk_Mo_readOrder 15 rfl) ?_
        refine wp_bipush (v := nI 19) (by decide) (ck_get kk_Mo_readOrder 16 rfl) ?_
        refine wp_cV1i (ck_get kk_Mo_readOrder 17 rfl) ml_Mo_211 (by omega) (Nat.le_of_ble_eq_true rfl) (by assumption) (Ci.to (m_takesN hT hi h2 (by omega)) ?_)
        rintro _ M1 ⟨rfl, eqm1⟩
        obtain rfl := eqm1.symm
        first | refine wp_if_eqN (t := 61) (ck_get kk_Mo_readOrder 18 rfl) (by decide) (by omega) (fun hc38 => ?_) (fun hc38 => ?_) | refine wp_if_eq (t := 61) (ck_get kk_Mo_readOrder 18 rfl) (by decide) (fun hc38 => ?_) (fun hc38 => ?_)
        · refine wp_aload_n rfl (ck_get kk_Mo_readOrder 29 rfl) ?_
          refine wp_bipush (v := nI 22) (by decide) (ck_get kk_Mo_readOrder 30 rfl) ?_
          refine wp_cV1v (ck_get kk_Mo_readOrder 31 rfl) ml_Mo_224 (by omega) (Nat.le_of_ble_eq_true rfl) (by assumption) (Cv.to (m_mustN hT hi h3 (by omega)) ?_)
          rintro M₁ rfl
          exact mc_67F hT e
        · omega
      · omega
theorem mc_c21 (hT : TkOK M o N tc tv pl od) (hf : 12 * N + 6 ≤ f) (hi : i ≤ N) (hlf : lf ≤ 50) : Wp g Y_Mo_readClause 210 21 [some (.ref o)] [] (rdM M o i lf (-1)) (fun r M2 => r = none ∧ rdQ M o pl (pIf tc tv od f i lf cl) M2) := by
  have to0 := hT.1.1
  have hal := mr_all (g := g) hT f
  unfold pIf
  by_cases h0 : tc i = 3
  · have hiN := hT.2.2.1 i (by omega)
    rw [if_pos h0]
    refine wp_aload_n rfl (ck_get kk_Mo_readClause 11 rfl) ?_
    refine wp_iconst (v := nI 3) (by decide) (ck_get kk_Mo_readClause 12 rfl) ?_
    refine wp_cV1i (ck_get kk_Mo_readClause 13 rfl) ml_Mo_211 (by omega) (Nat.le_of_ble_eq_true rfl) (by assumption) (Ci.to (m_takesY hT hi h0) ?_)
    rintro _ M1 ⟨rfl, eqm1⟩
    obtain rfl := eqm1.symm
    first | refine wp_if_eqN (t := 34) (ck_get kk_Mo_readClause 14 rfl) (by decide) (by omega) (fun hc26 => ?_) (fun hc26 => ?_) | refine wp_if_eq (t := 34) (ck_get kk_Mo_readClause 14 rfl) (by decide) (fun hc26 => ?_) (fun hc26 => ?_)
    · omega
    · refine wp_aload_n rfl (ck_get kk_Mo_readClause 15 rfl) ?_
      refine wp_iconst (v := nI 0) (by decide) (ck_get kk_Mo_readClause 16 rfl) ?_
      refine wp_cV1v (ck_get kk_Mo_readClause 17 rfl) ml_Mo_227 (by omega) (Nat.le_of_ble_eq_true rfl) (by assumption) (Cv.to (hal.2.2.2.2.2.2.2.2.2 0 (i + 1) lf cl (by omega) (by omega) hlf (by omega)) ?_)
      rintro M₁ hq₁
      refine wp_return (ck_get kk_Mo_readClause 18 rfl) rfl ⟨rfl, ?_⟩
      exact hq₁.pb (F := fun sg => sg ++ [nI 0, nI 0])
  · rw [if_neg h0]
    refine wp_aload_n rfl (ck_get kk_Mo_readClause 11 rfl) ?_
    refine wp_iconst (v := nI 3) (by decide) (ck_get kk_Mo_readClause 12 rfl) ?_
    refine wp_cV1i (ck_get kk_Mo_readClause 13 rfl) ml_Mo_211 (by omega) (Nat.le_of_ble_eq_true rfl) (by assumption) (Ci.to (m_takesN hT hi h0 (by omega)) ?_)
    rintro _ M1 ⟨rfl, eqm1⟩
    obtain rfl := eqm1.symm
    first | refine wp_if_eqN (t := 34) (ck_get kk_Mo_readClause 14 rfl) (by decide) (by omega) (fun hc26 => ?_) (fun hc26 => ?_) | refine wp_if_eq (t := 34) (ck_get kk_Mo_readClause 14 rfl) (by decide) (fun hc26 => ?_) (fun hc26 => ?_)
    · refine wp_return (ck_get kk_Mo_readClause 18 rfl) rfl ⟨rfl, ?_⟩
      exact rdQ.yes
    · omega
theorem mc_c21B (hM : MoAt (mT M) (mR M) o) (hb : ¬ b = -1) : Wp g Y_Mo_readClause 210 21 [some (.ref o)] [] (rdM M o i lf b) (fun r M2 => r = none ∧ M2 = rdM M o i lf b) := by
  have to0 := hM.1
  refine wp_aload_n rfl (ck_get kk_Mo_readClause 11 rfl) ?_
  refine wp_iconst (v := nI 3) (by decide) (ck_get kk_Mo_readClause 12 rfl) ?_
  refine wp_cV1i (ck_get kk_Mo_readClause 13 rfl) ml_Mo_211 (by omega) (Nat.le_of_ble_eq_true rfl) (by assumption) (Ci.to (m_takesB hM hb) ?_)
  rintro _ M1 ⟨rfl, eqm1⟩
  obtain rfl := eqm1.symm
  first | refine wp_if_eqN (t := 34) (ck_get kk_Mo_readClause 14 rfl) (by decide) (by omega) (fun hc26 => ?_) (fun hc26 => ?_) | refine wp_if_eq (t := 34) (ck_get kk_Mo_readClause 14 rfl) (by decide) (fun hc26 => ?_) (fun hc26 => ?_)
  · refine wp_return (ck_get kk_Mo_readClause 18 rfl) rfl ⟨rfl, ?_⟩
    rfl
  · omega
theorem mc_clause (hT : TkOK M o N tc tv pl false) (hf : 12 * N + 6 ≤ f) (hi : i ≤ N) (hlf : lf ≤ 50) : Cv g Y_Mo_readClause 210 [.ref o] (rdM M o i lf (-1)) (fun M2 => rdQ M o pl (p1F tc tv false f i lf cl) M2) := by
  have to0 := hT.1.1
  have hal := mr_all (g := g) hT f
  have hpl := hT.2.2.2.2.1
  refine cw_entry 0 pf_Mo_readClause rfl ?_
  have e0 : p1F tc tv false f i lf cl = psq (pLaw tc tv false f i lf cl) (fun j l n => pIf tc tv false f j l (cl + n)) := by
    unfold p1F; rw [if_neg (by decide)]
  rw [e0]
  unfold pLaw
  by_cases h0 : tc i = 1
  · have hiN := hT.2.2.1 i (by omega)
    rw [if_neg (by omega), if_pos h0]
    refine wp_aload_n rfl (ck_get kk_Mo_readClause 0 rfl) ?_
    refine wp_iconst (v := nI 1) (by decide) (ck_get kk_Mo_readClause 1 rfl) ?_
    refine wp_cV1i (ck_get kk_Mo_readClause 2 rfl) ml_Mo_211 (by omega) (Nat.le_of_ble_eq_true rfl) (by assumption) (Ci.to (m_takesY hT hi h0) ?_)
    rintro _ M1 ⟨rfl, eqm1⟩
    obtain rfl := eqm1.symm
    first | refine wp_if_eqN (t := 16) (ck_get kk_Mo_readClause 3 rfl) (by decide) (by omega) (fun hc5 => ?_) (fun hc5 => ?_) | refine wp_if_eq (t := 16) (ck_get kk_Mo_readClause 3 rfl) (by decide) (fun hc5 => ?_) (fun hc5 => ?_)
    · omega
    · refine wp_aload_n rfl (ck_get kk_Mo_readClause 4 rfl) ?_
      refine wp_iconst (v := nI 0) (by decide) (ck_get kk_Mo_readClause 5 rfl) ?_
      refine wp_cV1v (ck_get kk_Mo_readClause 6 rfl) ml_Mo_220 (by omega) (Nat.le_of_ble_eq_true rfl) (by assumption) (Cv.to (hal.2.2.2.2.1 0 (i + 1) lf cl (by omega) (by omega) hlf (by omega)) ?_)
      rintro M₁ hq₁
      refine wp_goto (t := 21) (ck_get kk_Mo_readClause 7 rfl) (by decide) ?_
      rcases hq₁ with ⟨j, l, s, hr, rfl⟩ | ⟨j, l, s, i2, lf3, hr, rfl⟩
      · obtain ⟨g1, g2, g3, g4, g5⟩ := psr_ok (N := N) hT.2.2.1 f 4 0 (i + 1) lf cl j l s (by omega) hr (by omega) hlf
        unfold pSm
        rw [hr, pbd_y, psq_y]
        refine Wp.mono (mc_c21 (cl := cl + (s ++ [nI 0, nI 0]).length) hT hf g2 g3) ?_
        rintro r₂ M₂ ⟨hr₂, hq₂⟩
        exact ⟨hr₂, hq₂.pb⟩
      · refine Wp.mono (mc_c21B hT.1 (nI_m1 (hpl j))) ?_
        rintro r₂ M₂ ⟨hr₂, rfl⟩
        refine ⟨hr₂, ?_⟩
        unfold pSm
        rw [hr, pbd_n]
        exact rdQ.no
  by_cases h1 : tc i = 2
  · have hiN := hT.2.2.1 i (by omega)
    rw [if_pos h1, psq_y]
    refine wp_aload_n rfl (ck_get kk_Mo_readClause 0 rfl) ?_
    refine wp_iconst (v := nI 1) (by decide) (ck_get kk_Mo_readClause 1 rfl) ?_
    refine wp_cV1i (ck_get kk_Mo_readClause 2 rfl) ml_Mo_211 (by omega) (Nat.le_of_ble_eq_true rfl) (by assumption) (Ci.to (m_takesN hT hi h0 (by omega)) ?_)
    rintro _ M1 ⟨rfl, eqm1⟩
    obtain rfl := eqm1.symm
    first | refine wp_if_eqN (t := 16) (ck_get kk_Mo_readClause 3 rfl) (by decide) (by omega) (fun hc5 => ?_) (fun hc5 => ?_) | refine wp_if_eq (t := 16) (ck_get kk_Mo_readClause 3 rfl) (by decide) (fun hc5 => ?_) (fun hc5 => ?_)
    · refine wp_aload_n rfl (ck_get kk_Mo_readClause 8 rfl) ?_
      refine wp_iconst (v := nI 2) (by decide) (ck_get kk_Mo_readClause 9 rfl) ?_
      refine wp_cV1v (ck_get kk_Mo_readClause 10 rfl) ml_Mo_224 (by omega) (Nat.le_of_ble_eq_true rfl) (by assumption) (Cv.to (m_mustY hT hi h1) ?_)
      rintro M₁ rfl
      refine Wp.mono (mc_c21 (cl := cl + 0) hT hf (by omega) hlf) ?_
      rintro r₂ M₂ ⟨hr₂, hq₂⟩
      exact ⟨hr₂, hq₂.pb⟩
    · omega
  · rw [if_neg h1, if_neg h0]
    refine wp_aload_n rfl (ck_get kk_Mo_readClause 0 rfl) ?_
    refine wp_iconst (v := nI 1) (by decide) (ck_get kk_Mo_readClause 1 rfl) ?_
    refine wp_cV1i (ck_get kk_Mo_readClause 2 rfl) ml_Mo_211 (by omega) (Nat.le_of_ble_eq_true rfl) (by assumption) (Ci.to (m_takesN hT hi h0 (by omega)) ?_)
    rintro _ M1 ⟨rfl, eqm1⟩
    obtain rfl := eqm1.symm
    first | refine wp_if_eqN (t := 16) (ck_get kk_Mo_readClause 3 rfl) (by decide) (by omega) (fun hc5 => ?_) (fun hc5 => ?_) | refine wp_if_eq (t := 16) (ck_get kk_Mo_readClause 3 rfl) (by decide) (fun hc5 => ?_) (fun hc5 => ?_)
    · refine wp_aload_n rfl (ck_get kk_Mo_readClause 8 rfl) ?_
      refine wp_iconst (v := nI 2) (by decide) (ck_get kk_Mo_readClause 9 rfl) ?_
      refine wp_cV1v (ck_get kk_Mo_readClause 10 rfl) ml_Mo_224 (by omega) (Nat.le_of_ble_eq_true rfl) (by assumption) (Cv.to (m_mustN hT hi h1 (by omega)) ?_)
      rintro M₁ rfl
      refine Wp.mono (mc_c21B hT.1 (nI_m1 (hpl i))) ?_
      rintro r₂ M₂ ⟨hr₂, rfl⟩
      exact ⟨hr₂, rdQ.no⟩
    · omega
theorem p1F_ok {j l : Nat} {sg : List Int32} (hN : ∀ i, tc i ≠ 0 → i < N) (h : p1F tc tv od f i lf cl = (true, j, l, sg)) (hi : i ≤ N) (hl : lf ≤ 50) : i < j ∧ j ≤ N ∧ l ≤ 50 := by
  unfold p1F at h
  obtain ⟨j1, l1, s1, e1, h1⟩ := pbd_t h
  obtain ⟨j2, l2, s2, e2, h2⟩ := pbd_t h1
  obtain ⟨rfl, rfl, rfl⟩ := tru_inj h2
  have h3 : i < j1 ∧ j1 ≤ N ∧ l1 ≤ 50 := by
    cases od with
    | true =>
      rw [if_pos rfl] at e1
      obtain ⟨u1, u2, u3, -⟩ := pOrd_ok N hN e1 hl
      exact ⟨u1, u2, u3⟩
    | false =>
      rw [if_neg (by decide)] at e1
      obtain ⟨u1, u2, u3, -⟩ := pLaw_ok N hN e1 hl
      exact ⟨u1, u2, u3⟩
  obtain ⟨v1, v2, v3, -⟩ := ClS_ok N hN e2 h3.2.1 h3.2.2
  exact ⟨by omega, v2, v3⟩
theorem mc_one (hT : TkOK M o N tc tv pl od) (hf : 12 * N + 6 ≤ f) (hi : i ≤ N) (hlf : lf ≤ 50) : Cv g Y_Mo_readOne 211 [.ref o] (rdM M o i lf (-1)) (fun M2 => rdQ M o pl (p1F tc tv od f i lf cl) M2) := by
  have to0 := hT.1.1
  have h13 := hT.2.2.2.2.2.2.1
  refine cw_entry 0 pf_Mo_readOne rfl ?_
  cases od with
  | true =>
    refine wp_aload_n rfl (ck_get kk_Mo_readOne 0 rfl) ?_
    refine wp_getIv (v := nI 1) (ck_get kk_Mo_readOne 1 rfl) fl_Mo_237 (by assumption) (by rw [rdM_f (by omega)]; exact h13) ?_
    first | refine wp_if_eqN (t := 14) (ck_get kk_Mo_readOne 2 rfl) (by decide) (by omega) (fun hc4 => ?_) (fun hc4 => ?_) | refine wp_if_eq (t := 14) (ck_get kk_Mo_readOne 2 rfl) (by decide) (fun hc4 => ?_) (fun hc4 => ?_)
    · omega
    · refine wp_aload_n rfl (ck_get kk_Mo_readOne 3 rfl) ?_
      refine wp_cV0v (ck_get kk_Mo_readOne 4 rfl) ml_Mo_241 (by omega) (Nat.le_of_ble_eq_true rfl) (by assumption) (Cv.to (mc_order (cl := cl) hT hf hi hlf) ?_)
      rintro M₁ hq₁
      refine wp_goto (t := 18) (ck_get kk_Mo_readOne 5 rfl) (by decide) ?_
      refine wp_return (ck_get kk_Mo_readOne 8 rfl) rfl ⟨rfl, ?_⟩
      exact hq₁
  | false =>
    refine wp_aload_n rfl (ck_get kk_Mo_readOne 0 rfl) ?_
    refine wp_getIv (v := nI 0) (ck_get kk_Mo_readOne 1 rfl) fl_Mo_237 (by assumption) (by rw [rdM_f (by omega)]; exact h13) ?_
    first | refine wp_if_eqN (t := 14) (ck_get kk_Mo_readOne 2 rfl) (by decide) (by omega) (fun hc4 => ?_) (fun hc4 => ?_) | refine wp_if_eq (t := 14) (ck_get kk_Mo_readOne 2 rfl) (by decide) (fun hc4 => ?_) (fun hc4 => ?_)
    · refine wp_aload_n rfl (ck_get kk_Mo_readOne 6 rfl) ?_
      refine wp_cV0v (ck_get kk_Mo_readOne 7 rfl) ml_Mo_244 (by omega) (Nat.le_of_ble_eq_true rfl) (by assumption) (Cv.to (mc_clause (cl := cl) hT hf hi hlf) ?_)
      rintro M₁ hq₁
      refine wp_return (ck_get kk_Mo_readOne 8 rfl) rfl ⟨rfl, ?_⟩
      exact hq₁
    · omega
/-- behind all clauses: the fault told -/
def rdF (M : Mem) (o : Nat) (pl : Nat → Nat) (r : PRes) (x : Int32) (M2 : Mem) : Prop := (∃ j lf sg, r = (true, j, lf, sg) ∧ x = nI 1 ∧ M2 = sI (rdM M o j lf (-1)) o 17 (-1)) ∨ (∃ j lf sg i2 lf2, r = (false, j, lf, sg) ∧ x = nI 0 ∧ M2 = sI (rdM M o i2 lf2 (nI (pl j))) o 17 (nI (pl j)))
theorem rdM_s17 {v : Int32} : sI (rdM M o i lf b) o 17 v = rdM (sI M o 17 v) o i lf b := by
  refine congrArg (fun I => mk2 M I (mJ M)) ?_
  show up2 (up1 (mI M) o _) o 17 v = up1 (up2 (mI M) o 17 v) o (up1 (up1 (up1 (up2 (mI M) o 17 v o) 22 (nI i)) 23 (nI lf)) 24 b)
  rw [up2_up1, up2_up1, up1_up1, up1_up1, up1_eq, up1_eq, up1_comm _ (by omega : 24 ≠ 17), up1_comm _ (by omega : 23 ≠ 17), up1_comm _ (by omega : 22 ≠ 17)]
theorem mc_73B {x1 : Option Value} (hM : MoAt (mT M) (mR M) o) (hb : ¬ b = -1) : Wp g Y_Mo_reads 230 73 [some (.ref o), x1] [] (rdM M o i lf b) (fun r M2 => ∃ x, r = some (.int x) ∧ x = nI 0 ∧ M2 = sI (rdM M o i lf b) o 17 b) := by
  have to0 := hM.1
  refine wp_aload_n rfl (ck_get kk_Mo_reads 37 rfl) ?_
  refine wp_cV0i (ck_get kk_Mo_reads 38 rfl) ml_Mo_204 (by omega) (Nat.le_of_ble_eq_true rfl) (by assumption) (Ci.to (m_fineN hM hb) ?_)
  rintro _ M1 ⟨rfl, eqm1⟩
  obtain rfl := eqm1.symm
  first | refine wp_if_eqN (t := 95) (ck_get kk_Mo_reads 39 rfl) (by decide) (by omega) (fun hc77 => ?_) (fun hc77 => ?_) | refine wp_if_eq (t := 95) (ck_get kk_Mo_reads 39 rfl) (by decide) (fun hc77 => ?_) (fun hc77 => ?_)
  · refine wp_aload_n rfl (ck_get kk_Mo_reads 47 rfl) ?_
    refine wp_aload_n rfl (ck_get kk_Mo_reads 48 rfl) ?_
    refine wp_getIv (v := b) (ck_get kk_Mo_reads 49 rfl) fl_Mo_201 (by assumption) (rdM_24) ?_
    refine wp_putI (ck_get kk_Mo_reads 50 rfl) fl_Mo_61 (by decide +kernel) (by assumption) (okI_int _) ?_
    rw [rdM_s17]
    refine wp_aload_n rfl (ck_get kk_Mo_reads 51 rfl) ?_
    refine wp_cV0i (ck_get kk_Mo_reads 52 rfl) ml_Mo_204 (by omega) (Nat.le_of_ble_eq_true rfl) (by assumption) (Ci.to (m_fineN (M := sI M o 17 b) (by exact hM) hb) ?_)
    rintro _ M1 ⟨rfl, eqm1⟩
    obtain rfl := eqm1.symm
    refine wp_ireturn (ck_get kk_Mo_reads 53 rfl) rfl rfl ⟨_, rfl, ?_⟩
    exact ⟨rfl, rfl⟩
  · omega
theorem mc_73 {x1 : Option Value} (hT : TkOK M o N tc tv pl od) (h21 : mI M o 21 = nI N) (hi : i ≤ N) : Wp g Y_Mo_reads 230 73 [some (.ref o), x1] [] (rdM M o i lf (-1)) (fun r M2 => ∃ x, r = some (.int x) ∧ rdF M o pl (if ¬ i < N then (true, i, lf, []) else (false, i, lf, [])) x M2) := by
  have hM := hT.1
  have to0 := hM.1
  have hN := hT.2.1
  have hpi := hT.2.2.2.2.1 i
  by_cases h : i < N
  · rw [if_neg (by omega)]
    refine wp_aload_n rfl (ck_get kk_Mo_reads 37 rfl) ?_
    refine wp_cV0i (ck_get kk_Mo_reads 38 rfl) ml_Mo_204 (by omega) (Nat.le_of_ble_eq_true rfl) (by assumption) (Ci.to (m_fineY hM) ?_)
    rintro _ M1 ⟨rfl, eqm1⟩
    obtain rfl := eqm1.symm
    first | refine wp_if_eqN (t := 95) (ck_get kk_Mo_reads 39 rfl) (by decide) (by omega) (fun hc77 => ?_) (fun hc77 => ?_) | refine wp_if_eq (t := 95) (ck_get kk_Mo_reads 39 rfl) (by decide) (fun hc77 => ?_) (fun hc77 => ?_)
    · omega
    · refine wp_aload_n rfl (ck_get kk_Mo_reads 40 rfl) ?_
      refine wp_getIv (v := nI i) (ck_get kk_Mo_reads 41 rfl) fl_Mo_208 (by assumption) (rdM_22) ?_
      refine wp_aload_n rfl (ck_get kk_Mo_reads 42 rfl) ?_
      refine wp_getIv (v := nI N) (ck_get kk_Mo_reads 43 rfl) fl_Mo_188 (by assumption) (by rw [rdM_f (by omega)]; exact h21) ?_
      first | refine wp_icmp_geN (t := 95) (ck_get kk_Mo_reads 44 rfl) (by decide) (by omega) (by omega) (fun hc88 => ?_) (fun hc88 => ?_) | refine wp_icmp_ge (t := 95) (ck_get kk_Mo_reads 44 rfl) (by decide) (fun hc88 => ?_) (fun hc88 => ?_)
      · omega
      · refine wp_aload_n rfl (ck_get kk_Mo_reads 45 rfl) ?_
        refine wp_cV0v (ck_get kk_Mo_reads 46 rfl) ml_Mo_214 (by omega) (Nat.le_of_ble_eq_true rfl) (by assumption) (Cv.to (m_faultsY hT hi) ?_)
        rintro M₁ rfl
        skip
        refine wp_aload_n rfl (ck_get kk_Mo_reads 47 rfl) ?_
        refine wp_aload_n rfl (ck_get kk_Mo_reads 48 rfl) ?_
        refine wp_getIv (v := nI (pl i)) (ck_get kk_Mo_reads 49 rfl) fl_Mo_201 (by assumption) (rdM_24) ?_
        refine wp_putI (ck_get kk_Mo_reads 50 rfl) fl_Mo_61 (by decide +kernel) (by assumption) (okI_int _) ?_
        rw [rdM_s17]
        refine wp_aload_n rfl (ck_get kk_Mo_reads 51 rfl) ?_
        refine wp_cV0i (ck_get kk_Mo_reads 52 rfl) ml_Mo_204 (by omega) (Nat.le_of_ble_eq_true rfl) (by assumption) (Ci.to (m_fineN (M := sI M o 17 (nI (pl i))) (by exact hM) (nI_m1 hpi)) ?_)
        rintro _ M1 ⟨rfl, eqm1⟩
        obtain rfl := eqm1.symm
        refine wp_ireturn (ck_get kk_Mo_reads 53 rfl) rfl rfl ⟨_, rfl, ?_⟩
        exact Or.inr ⟨i, lf, [], i, lf, rfl, rfl, rdM_s17.symm⟩
  · rw [if_pos h]
    refine wp_aload_n rfl (ck_get kk_Mo_reads 37 rfl) ?_
    refine wp_cV0i (ck_get kk_Mo_reads 38 rfl) ml_Mo_204 (by omega) (Nat.le_of_ble_eq_true rfl) (by assumption) (Ci.to (m_fineY hM) ?_)
    rintro _ M1 ⟨rfl, eqm1⟩
    obtain rfl := eqm1.symm
    first | refine wp_if_eqN (t := 95) (ck_get kk_Mo_reads 39 rfl) (by decide) (by omega) (fun hc77 => ?_) (fun hc77 => ?_) | refine wp_if_eq (t := 95) (ck_get kk_Mo_reads 39 rfl) (by decide) (fun hc77 => ?_) (fun hc77 => ?_)
    · omega
    · refine wp_aload_n rfl (ck_get kk_Mo_reads 40 rfl) ?_
      refine wp_getIv (v := nI i) (ck_get kk_Mo_reads 41 rfl) fl_Mo_208 (by assumption) (rdM_22) ?_
      refine wp_aload_n rfl (ck_get kk_Mo_reads 42 rfl) ?_
      refine wp_getIv (v := nI N) (ck_get kk_Mo_reads 43 rfl) fl_Mo_188 (by assumption) (by rw [rdM_f (by omega)]; exact h21) ?_
      first | refine wp_icmp_geN (t := 95) (ck_get kk_Mo_reads 44 rfl) (by decide) (by omega) (by omega) (fun hc88 => ?_) (fun hc88 => ?_) | refine wp_icmp_ge (t := 95) (ck_get kk_Mo_reads 44 rfl) (by decide) (fun hc88 => ?_) (fun hc88 => ?_)
      · refine wp_aload_n rfl (ck_get kk_Mo_reads 47 rfl) ?_
        refine wp_aload_n rfl (ck_get kk_Mo_reads 48 rfl) ?_
        refine wp_getIv (v := -1) (ck_get kk_Mo_reads 49 rfl) fl_Mo_201 (by assumption) (rdM_24) ?_
        refine wp_putI (ck_get kk_Mo_reads 50 rfl) fl_Mo_61 (by decide +kernel) (by assumption) (okI_int _) ?_
        rw [rdM_s17]
        refine wp_aload_n rfl (ck_get kk_Mo_reads 51 rfl) ?_
        refine wp_cV0i (ck_get kk_Mo_reads 52 rfl) ml_Mo_204 (by omega) (Nat.le_of_ble_eq_true rfl) (by assumption) (Ci.to (m_fineY (M := sI M o 17 (-1)) (by exact hM)) ?_)
        rintro _ M1 ⟨rfl, eqm1⟩
        obtain rfl := eqm1.symm
        refine wp_ireturn (ck_get kk_Mo_reads 53 rfl) rfl rfl ⟨_, rfl, ?_⟩
        exact Or.inl ⟨i, lf, [], rfl, rfl, rdM_s17.symm⟩
      · omega
theorem rdF.pb {r : PRes} {F : List Int32 → List Int32} {x : Int32} {M2 : Mem} (h : rdF M o pl r x M2) : rdF M o pl (pbd r (fun j l sg => (true, j, l, F sg))) x M2 := by
  rcases h with ⟨j, lf, sg, rfl, hx, hM⟩ | ⟨j, lf, sg, i2, lf2, rfl, hx, hM⟩
  · exact Or.inl ⟨j, lf, F sg, rfl, hx, hM⟩
  · exact Or.inr ⟨j, lf, [], i2, lf2, rfl, hx, hM⟩
theorem mc_badF {x1 : Option Value} {r : PRes} {j l : Nat} {sg : List Int32} (hT : TkOK M o N tc tv pl od) (hr : r = (false, j, l, sg)) : Wp g Y_Mo_reads 230 34 [some (.ref o), x1] [] (rdM M o i lf (nI (pl j))) (fun q M2 => ∃ x, q = some (.int x) ∧ rdF M o pl r x M2) := by
  have hM := hT.1
  have to0 := hM.1
  refine wp_aload_n rfl (ck_get kk_Mo_reads 20 rfl) ?_
  refine wp_bipush (v := nI 59) (by decide) (ck_get kk_Mo_reads 21 rfl) ?_
  refine wp_cS1i (ck_get kk_Mo_reads 22 rfl) ml_Mo_253 (by omega) (Nat.le_of_ble_eq_true rfl) (Ci.to (m_signOf) ?_)
  rintro _ M1 ⟨rfl, eqm1⟩
  obtain rfl := eqm1.symm
  refine wp_cV1i (ck_get kk_Mo_reads 23 rfl) ml_Mo_211 (by omega) (Nat.le_of_ble_eq_true rfl) (by assumption) (Ci.to (m_takesB hM (nI_m1 (hT.2.2.2.2.1 j))) ?_)
  rintro _ M1 ⟨rfl, eqm1⟩
  obtain rfl := eqm1.symm
  first | refine wp_if_eqN (t := 73) (ck_get kk_Mo_reads 24 rfl) (by decide) (by omega) (fun hc43 => ?_) (fun hc43 => ?_) | refine wp_if_eq (t := 73) (ck_get kk_Mo_reads 24 rfl) (by decide) (fun hc43 => ?_) (fun hc43 => ?_)
  · refine Wp.mono (mc_73B hM (nI_m1 (hT.2.2.2.2.1 j))) ?_
    rintro q M₂ ⟨x, rfl, rfl, rfl⟩
    exact ⟨_, rfl, Or.inr ⟨j, l, sg, i, lf, hr, rfl, rfl⟩⟩
  · omega
theorem mc_34 {en : Nat → Bool} (hT : TkOK M o N tc tv pl od) (h21 : mI M o 21 = nI N) (hen : ∀ j, en j = true ↔ ¬ j < N) (hf : 12 * N + 6 ≤ f) : ∀ r k i lf cl, k + r = 12 → i ≤ N → lf ≤ 50 → Wp g Y_Mo_reads 230 34 [some (.ref o), some (.int (nI k))] [] (rdM M o i lf (-1)) (fun q M2 => ∃ x, q = some (.int x) ∧ rdF M o pl (if en i = true then (true, i, lf, []) else if tc i = 159 then pcF tc tv od f en r (i + 1) lf cl else (false, i, lf, [])) x M2) := by
  have hM := hT.1
  have to0 := hM.1
  have hN2 := hT.2.2.1
  have hpl := hT.2.2.2.2.1
  intro r
  induction r with
  | zero =>
    intro k i lf cl hk hi hlf
    by_cases hs : tc i = 100 + 59
    · have hiN := hN2 i (by omega)
      rw [if_neg (by rw [hen]; omega), if_pos hs]
      refine wp_aload_n rfl (ck_get kk_Mo_reads 20 rfl) ?_
      refine wp_bipush (v := nI 59) (by decide) (ck_get kk_Mo_reads 21 rfl) ?_
      refine wp_cS1i (ck_get kk_Mo_reads 22 rfl) ml_Mo_253 (by omega) (Nat.le_of_ble_eq_true rfl) (Ci.to (m_signOf) ?_)
      rintro _ M1 ⟨rfl, eqm1⟩
      obtain rfl := eqm1.symm
      refine wp_cV1i (ck_get kk_Mo_reads 23 rfl) ml_Mo_211 (by omega) (Nat.le_of_ble_eq_true rfl) (by assumption) (Ci.to (m_takesY hT hi hs) ?_)
      rintro _ M1 ⟨rfl, eqm1⟩
      obtain rfl := eqm1.symm
      first | refine wp_if_eqN (t := 73) (ck_get kk_Mo_reads 24 rfl) (by decide) (by omega) (fun hc43 => ?_) (fun hc43 => ?_) | refine wp_if_eq (t := 73) (ck_get kk_Mo_reads 24 rfl) (by decide) (fun hc43 => ?_) (fun hc43 => ?_)
      · omega
      · refine wp_iload_n rfl (ck_get kk_Mo_reads 25 rfl) ?_
        refine wp_bipush (v := nI 12) (by decide) (ck_get kk_Mo_reads 26 rfl) ?_
        first | refine wp_icmp_neN (t := 56) (ck_get kk_Mo_reads 27 rfl) (by decide) (by omega) (by omega) (fun hc49 => ?_) (fun hc49 => ?_) | refine wp_icmp_ne (t := 56) (ck_get kk_Mo_reads 27 rfl) (by decide) (fun hc49 => ?_) (fun hc49 => ?_)
        · omega
        · refine wp_aload_n rfl (ck_get kk_Mo_reads 28 rfl) ?_
          refine wp_cV0v (ck_get kk_Mo_reads 29 rfl) ml_Mo_214 (by omega) (Nat.le_of_ble_eq_true rfl) (by assumption) (Cv.to (m_faultsY hT (by omega)) ?_)
          rintro M₁ rfl
          refine wp_aload_n rfl (ck_get kk_Mo_reads 30 rfl) ?_
          refine wp_cV0i (ck_get kk_Mo_reads 31 rfl) ml_Mo_204 (by omega) (Nat.le_of_ble_eq_true rfl) (by assumption) (Ci.to (m_fineN hM (nI_m1 (hpl (i + 1)))) ?_)
          rintro _ M1 ⟨rfl, eqm1⟩
          obtain rfl := eqm1.symm
          first | refine wp_if_eqN (t := 67) (ck_get kk_Mo_reads 32 rfl) (by decide) (by omega) (fun hc60 => ?_) (fun hc60 => ?_) | refine wp_if_eq (t := 67) (ck_get kk_Mo_reads 32 rfl) (by decide) (fun hc60 => ?_) (fun hc60 => ?_)
          · first | refine wp_iincN (ck_get kk_Mo_reads 35 rfl) rfl (by decide) rfl ?_ | refine wp_iinc (ck_get kk_Mo_reads 35 rfl) rfl (by decide) rfl ?_
            refine wp_goto (t := 34) (ck_get kk_Mo_reads 36 rfl) (by decide) ?_
            exact mc_badF hT rfl
          · omega
    · rw [if_neg (c := tc i = 159) hs]
      refine wp_aload_n rfl (ck_get kk_Mo_reads 20 rfl) ?_
      refine wp_bipush (v := nI 59) (by decide) (ck_get kk_Mo_reads 21 rfl) ?_
      refine wp_cS1i (ck_get kk_Mo_reads 22 rfl) ml_Mo_253 (by omega) (Nat.le_of_ble_eq_true rfl) (Ci.to (m_signOf) ?_)
      rintro _ M1 ⟨rfl, eqm1⟩
      obtain rfl := eqm1.symm
      refine wp_cV1i (ck_get kk_Mo_reads 23 rfl) ml_Mo_211 (by omega) (Nat.le_of_ble_eq_true rfl) (by assumption) (Ci.to (m_takesN hT hi hs (by omega)) ?_)
      rintro _ M1 ⟨rfl, eqm1⟩
      obtain rfl := eqm1.symm
      first | refine wp_if_eqN (t := 73) (ck_get kk_Mo_reads 24 rfl) (by decide) (by omega) (fun hc43 => ?_) (fun hc43 => ?_) | refine wp_if_eq (t := 73) (ck_get kk_Mo_reads 24 rfl) (by decide) (fun hc43 => ?_) (fun hc43 => ?_)
      · refine Wp.mono (mc_73 hT h21 hi) ?_
        rintro q M₂ ⟨x, rfl, hq⟩
        refine ⟨x, rfl, ?_⟩
        by_cases h : i < N
        · rw [if_neg (by omega)] at hq
          rw [if_neg (by rw [hen]; omega)]
          exact hq
        · rw [if_pos h] at hq
          rw [if_pos ((hen i).mpr h)]
          exact hq
      · omega
  | succ r ih =>
    intro k i lf cl hk hi hlf
    by_cases hs : tc i = 100 + 59
    · have hiN := hN2 i (by omega)
      rw [if_neg (by rw [hen]; omega), if_pos hs, pcF]
      refine wp_aload_n rfl (ck_get kk_Mo_reads 20 rfl) ?_
      refine wp_bipush (v := nI 59) (by decide) (ck_get kk_Mo_reads 21 rfl) ?_
      refine wp_cS1i (ck_get kk_Mo_reads 22 rfl) ml_Mo_253 (by omega) (Nat.le_of_ble_eq_true rfl) (Ci.to (m_signOf) ?_)
      rintro _ M1 ⟨rfl, eqm1⟩
      obtain rfl := eqm1.symm
      refine wp_cV1i (ck_get kk_Mo_reads 23 rfl) ml_Mo_211 (by omega) (Nat.le_of_ble_eq_true rfl) (by assumption) (Ci.to (m_takesY hT hi hs) ?_)
      rintro _ M1 ⟨rfl, eqm1⟩
      obtain rfl := eqm1.symm
      first | refine wp_if_eqN (t := 73) (ck_get kk_Mo_reads 24 rfl) (by decide) (by omega) (fun hc43 => ?_) (fun hc43 => ?_) | refine wp_if_eq (t := 73) (ck_get kk_Mo_reads 24 rfl) (by decide) (fun hc43 => ?_) (fun hc43 => ?_)
      · omega
      · refine wp_iload_n rfl (ck_get kk_Mo_reads 25 rfl) ?_
        refine wp_bipush (v := nI 12) (by decide) (ck_get kk_Mo_reads 26 rfl) ?_
        first | refine wp_icmp_neN (t := 56) (ck_get kk_Mo_reads 27 rfl) (by decide) (by omega) (by omega) (fun hc49 => ?_) (fun hc49 => ?_) | refine wp_icmp_ne (t := 56) (ck_get kk_Mo_reads 27 rfl) (by decide) (fun hc49 => ?_) (fun hc49 => ?_)
        · refine wp_aload_n rfl (ck_get kk_Mo_reads 30 rfl) ?_
          refine wp_cV0i (ck_get kk_Mo_reads 31 rfl) ml_Mo_204 (by omega) (Nat.le_of_ble_eq_true rfl) (by assumption) (Ci.to (m_fineY hM) ?_)
          rintro _ M1 ⟨rfl, eqm1⟩
          obtain rfl := eqm1.symm
          first | refine wp_if_eqN (t := 67) (ck_get kk_Mo_reads 32 rfl) (by decide) (by omega) (fun hc60 => ?_) (fun hc60 => ?_) | refine wp_if_eq (t := 67) (ck_get kk_Mo_reads 32 rfl) (by decide) (fun hc60 => ?_) (fun hc60 => ?_)
          · omega
          · refine wp_aload_n rfl (ck_get kk_Mo_reads 33 rfl) ?_
            refine wp_cV0v (ck_get kk_Mo_reads 34 rfl) ml_Mo_275 (by omega) (Nat.le_of_ble_eq_true rfl) (by assumption) (Cv.to (mc_one (cl := cl) hT hf (by omega) hlf) ?_)
            rintro M₁ hq₁
            rcases hq₁ with ⟨j, l, s, hr, rfl⟩ | ⟨j, l, s, i2, lf3, hr, rfl⟩
            · obtain ⟨g1, g2, g3⟩ := p1F_ok (N := N) hN2 hr (by omega) hlf
              rw [hr, psq_y]
              first | refine wp_iincN (ck_get kk_Mo_reads 35 rfl) rfl (by decide) rfl ?_ | refine wp_iinc (ck_get kk_Mo_reads 35 rfl) rfl (by decide) rfl ?_
              refine wp_goto (t := 34) (ck_get kk_Mo_reads 36 rfl) (by decide) ?_
              refine Wp.mono (ih (k + 1) j l (cl + s.length) (by omega) g2 g3) ?_
              rintro q M₂ ⟨x, rfl, hq⟩
              exact ⟨x, rfl, hq.pb⟩
            · skip
              first | refine wp_iincN (ck_get kk_Mo_reads 35 rfl) rfl (by decide) rfl ?_ | refine wp_iinc (ck_get kk_Mo_reads 35 rfl) rfl (by decide) rfl ?_
              refine wp_goto (t := 34) (ck_get kk_Mo_reads 36 rfl) (by decide) ?_
              exact mc_badF hT (by rw [hr]; rfl)
        · omega
    · rw [if_neg (c := tc i = 159) hs]
      refine wp_aload_n rfl (ck_get kk_Mo_reads 20 rfl) ?_
      refine wp_bipush (v := nI 59) (by decide) (ck_get kk_Mo_reads 21 rfl) ?_
      refine wp_cS1i (ck_get kk_Mo_reads 22 rfl) ml_Mo_253 (by omega) (Nat.le_of_ble_eq_true rfl) (Ci.to (m_signOf) ?_)
      rintro _ M1 ⟨rfl, eqm1⟩
      obtain rfl := eqm1.symm
      refine wp_cV1i (ck_get kk_Mo_reads 23 rfl) ml_Mo_211 (by omega) (Nat.le_of_ble_eq_true rfl) (by assumption) (Ci.to (m_takesN hT hi hs (by omega)) ?_)
      rintro _ M1 ⟨rfl, eqm1⟩
      obtain rfl := eqm1.symm
      first | refine wp_if_eqN (t := 73) (ck_get kk_Mo_reads 24 rfl) (by decide) (by omega) (fun hc43 => ?_) (fun hc43 => ?_) | refine wp_if_eq (t := 73) (ck_get kk_Mo_reads 24 rfl) (by decide) (fun hc43 => ?_) (fun hc43 => ?_)
      · refine Wp.mono (mc_73 hT h21 hi) ?_
        rintro q M₂ ⟨x, rfl, hq⟩
        refine ⟨x, rfl, ?_⟩
        by_cases h : i < N
        · rw [if_neg (by omega)] at hq
          rw [if_neg (by rw [hen]; omega)]
          exact hq
        · rw [if_pos h] at hq
          rw [if_pos ((hen i).mpr h)]
          exact hq
      · omega
end MCL
