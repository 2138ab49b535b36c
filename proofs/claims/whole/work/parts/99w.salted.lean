/-! ===== salted ===== -/
section SLT
variable {g : Gl} {M : Mem}
/-- salts below k with which a hash is below a limit -/
def csN (h lim : Nat) : Nat → Nat
  | 0 => 0
  | k + 1 => csN h lim k + (if (h + k) % 1000 < lim then 1 else 0)
theorem csN_at {h lim : Nat} : ∀ k, k ≤ 1000 → csN h lim k = if k ≤ 1000 - h % 1000 then min (h % 1000 + k) lim - min (h % 1000) lim else (min 1000 lim - min (h % 1000) lim) + min (k - (1000 - h % 1000)) lim
  | 0, _ => by
    rw [if_pos (Nat.zero_le _)]
    show 0 = _
    omega
  | k + 1, hk => by
    have ih := csN_at (h := h) (lim := lim) k (by omega)
    have hm : (h + k) % 1000 = if k < 1000 - h % 1000 then h % 1000 + k else h % 1000 + k - 1000 := by split <;> omega
    unfold csN
    rw [ih, hm]
    split <;> split <;> split <;> split <;> omega
theorem csN_s {h lim k : Nat} : csN h lim (k + 1) = csN h lim k + (if (h + k) % 1000 < lim then 1 else 0) := rfl
theorem csN_all {h lim : Nat} (hl : lim ≤ 1000) : csN h lim 1000 = lim := by
  rw [csN_at 1000 (Nat.le_refl _)]
  split <;> omega
theorem csN_le {h lim : Nat} : ∀ k, csN h lim k ≤ k
  | 0 => Nat.le_refl _
  | k + 1 => by
    have := csN_le (h := h) (lim := lim) k
    unfold csN
    split <;> omega
theorem l_salt1 {lim n hs : Nat} {x0 x1 x4 : Option Value} (hn : n < 100000) (hh : hs < 1000000) (hl : lim ≤ 1000) {Q : Option Value → Mem → Prop} (K : Wp g Y_Mo_salted 300 99 [x0, x1, some (.int (nI lim)), some (.int (nI (n + lim))), x4, some (.int (nI hs)), some (.int (nI 1000))] [] M Q) : ∀ d k, k + d = 1000 → Wp g Y_Mo_salted 300 64 [x0, x1, some (.int (nI lim)), some (.int (nI (n + csN hs lim k))), x4, some (.int (nI hs)), some (.int (nI k))] [] M Q := by
  intro d
  induction d with
  | zero =>
    intro k h1
    obtain rfl : k = 1000 := by omega
    rw [csN_all hl]
    refine wp_iload rfl (ck_get kk_Mo_salted 35 rfl) ?_
    refine wp_sipush (v := nI 1000) (by decide) (ck_get kk_Mo_salted 36 rfl) ?_
    first | refine wp_icmp_geN (t := 99) (ck_get kk_Mo_salted 37 rfl) (by decide) (by omega) (by omega) (fun hc69 => ?_) (fun hc69 => ?_) | refine wp_icmp_ge (t := 99) (ck_get kk_Mo_salted 37 rfl) (by decide) (fun hc69 => ?_) (fun hc69 => ?_)
    · exact K
    · omega
  | succ d ih =>
    intro k h1
    have hcs := csN_le (h := hs) (lim := lim) k
    refine wp_iload rfl (ck_get kk_Mo_salted 35 rfl) ?_
    refine wp_sipush (v := nI 1000) (by decide) (ck_get kk_Mo_salted 36 rfl) ?_
    first | refine wp_icmp_geN (t := 99) (ck_get kk_Mo_salted 37 rfl) (by decide) (by omega) (by omega) (fun hc69 => ?_) (fun hc69 => ?_) | refine wp_icmp_ge (t := 99) (ck_get kk_Mo_salted 37 rfl) (by decide) (fun hc69 => ?_) (fun hc69 => ?_)
    · omega
    · refine wp_iload_n rfl (ck_get kk_Mo_salted 38 rfl) ?_
      refine wp_iload rfl (ck_get kk_Mo_salted 39 rfl) ?_
      refine wp_iload rfl (ck_get kk_Mo_salted 40 rfl) ?_
      first | refine wp_iaddN (ck_get kk_Mo_salted 41 rfl) ?_ | refine wp_iadd (ck_get kk_Mo_salted 41 rfl) ?_
      refine wp_sipush (v := nI 1000) (by decide) (ck_get kk_Mo_salted 42 rfl) ?_
      first | refine wp_iremN (ck_get kk_Mo_salted 43 rfl) (by omega) (by omega) (by omega) ?_ | refine wp_irem (by decide) (ck_get kk_Mo_salted 43 rfl) ?_
      refine wp_iload_n rfl (ck_get kk_Mo_salted 44 rfl) ?_
      first | refine wp_icmp_geN (t := 90) (ck_get kk_Mo_salted 45 rfl) (by decide) (by omega) (by omega) (fun hc83 => ?_) (fun hc83 => ?_) | refine wp_icmp_ge (t := 90) (ck_get kk_Mo_salted 45 rfl) (by decide) (fun hc83 => ?_) (fun hc83 => ?_)
      · refine wp_iconst (v := nI 0) (by decide) (ck_get kk_Mo_salted 48 rfl) ?_
        first | refine wp_iaddN (ck_get kk_Mo_salted 49 rfl) ?_ | refine wp_iadd (ck_get kk_Mo_salted 49 rfl) ?_
        refine wp_istore_n (ck_get kk_Mo_salted 50 rfl) (by decide) rfl ?_
        first | refine wp_iincN (ck_get kk_Mo_salted 51 rfl) rfl (by decide) rfl ?_ | refine wp_iinc (ck_get kk_Mo_salted 51 rfl) rfl (by decide) rfl ?_
        refine wp_goto (t := 64) (ck_get kk_Mo_salted 52 rfl) (by decide) ?_
        have e := ih (k + 1) (by omega)
        rw [show n + csN hs lim (k + 1) = n + csN hs lim k + 0 by rw [csN_s, if_neg (by omega)]; rfl] at e
        exact e
      · refine wp_iconst (v := nI 1) (by decide) (ck_get kk_Mo_salted 46 rfl) ?_
        refine wp_goto (t := 91) (ck_get kk_Mo_salted 47 rfl) (by decide) ?_
        first | refine wp_iaddN (ck_get kk_Mo_salted 49 rfl) ?_ | refine wp_iadd (ck_get kk_Mo_salted 49 rfl) ?_
        refine wp_istore_n (ck_get kk_Mo_salted 50 rfl) (by decide) rfl ?_
        first | refine wp_iincN (ck_get kk_Mo_salted 51 rfl) rfl (by decide) rfl ?_ | refine wp_iinc (ck_get kk_Mo_salted 51 rfl) rfl (by decide) rfl ?_
        refine wp_goto (t := 64) (ck_get kk_Mo_salted 52 rfl) (by decide) ?_
        have e := ih (k + 1) (by omega)
        rw [show n + csN hs lim (k + 1) = n + csN hs lim k + 1 by rw [csN_s, if_pos (by omega)]; omega] at e
        exact e
theorem l_salt2 {t lim : Nat} {L : List Nat} (hM : MoAt (mT M) (mR M) 1020) (ht : t < 4) (hR : RowC (mI M (1020 + 2)) (92 * t + 59) L) (hL : L.length ≤ 32) (hk : ∀ x ∈ L, x < 1000) (hl : lim ≤ 1000) : ∀ d i x5 x6, i + d = L.length → Wp g Y_Mo_salted 300 25 [some (.ref 1020), some (.int (nI t)), some (.int (nI lim)), some (.int (nI (i * lim))), some (.int (nI (i + 1))), x5, x6] [] M (fun r M2 => ∃ x, r = some (.int x) ∧ x = nI (L.length * lim) ∧ M2 = M) := by
  have to0 := hM.1
  have rfkept := MoAt.r hM 1 rfl
  have tfkept := MoAt.t hM 1 rfl
  have e0 := hR.1
  intro d
  induction d with
  | zero =>
    intro i x5 x6 h1
    refine wp_iload rfl (ck_get kk_Mo_salted 14 rfl) ?_
    refine wp_aload_n rfl (ck_get kk_Mo_salted 15 rfl) ?_
    refine wp_getR (ck_get kk_Mo_salted 16 rfl) fl_Mo_28 (by assumption) (by assumption) ?_
    refine wp_iload_n rfl (ck_get kk_Mo_salted 17 rfl) ?_
    refine wp_bipush (v := nI 59) (by decide) (ck_get kk_Mo_salted 18 rfl) ?_
    refine wp_cS2i (ck_get kk_Mo_salted 19 rfl) ml_Mo_142 (by omega) (Nat.le_of_ble_eq_true rfl) (Ci.to (m_at) ?_)
    rintro _ M1 ⟨rfl, eqm1⟩
    obtain rfl := eqm1.symm
    refine wp_ialdv (v := nI L.length) (ck_get kk_Mo_salted 20 rfl) (by assumption) (ixk_nI (k := 92 * t + 59) (by omega) (by omega)) (e0) ?_
    first | refine wp_icmp_gtN (t := 105) (ck_get kk_Mo_salted 21 rfl) (by decide) (by omega) (by omega) (fun hc38 => ?_) (fun hc38 => ?_) | refine wp_icmp_gt (t := 105) (ck_get kk_Mo_salted 21 rfl) (by decide) (fun hc38 => ?_) (fun hc38 => ?_)
    · refine wp_iload_n rfl (ck_get kk_Mo_salted 55 rfl) ?_
      refine wp_ireturn (ck_get kk_Mo_salted 56 rfl) rfl rfl ⟨_, rfl, ?_⟩
      obtain rfl : i = L.length := by omega
      exact ⟨rfl, rfl⟩
    · omega
  | succ d ih =>
    intro i x5 x6 h1
    have ei : mI M (1020 + 2) (92 * t + (59 + (i + 1))) = nI (L.getD i 0) := by
      have := hR.2 i (by omega)
      rw [show 92 * t + (59 + (i + 1)) = 92 * t + 59 + 1 + i by omega]; exact this
    have hg := hk _ (getD_mem (L := L) (i := i) (by omega))
    have hmul : i * lim ≤ 32 * 1000 := Nat.mul_le_mul (by omega) hl
    refine wp_iload rfl (ck_get kk_Mo_salted 14 rfl) ?_
    refine wp_aload_n rfl (ck_get kk_Mo_salted 15 rfl) ?_
    refine wp_getR (ck_get kk_Mo_salted 16 rfl) fl_Mo_28 (by assumption) (by assumption) ?_
    refine wp_iload_n rfl (ck_get kk_Mo_salted 17 rfl) ?_
    refine wp_bipush (v := nI 59) (by decide) (ck_get kk_Mo_salted 18 rfl) ?_
    refine wp_cS2i (ck_get kk_Mo_salted 19 rfl) ml_Mo_142 (by omega) (Nat.le_of_ble_eq_true rfl) (Ci.to (m_at) ?_)
    rintro _ M1 ⟨rfl, eqm1⟩
    obtain rfl := eqm1.symm
    refine wp_ialdv (v := nI L.length) (ck_get kk_Mo_salted 20 rfl) (by assumption) (ixk_nI (k := 92 * t + 59) (by omega) (by omega)) (e0) ?_
    first | refine wp_icmp_gtN (t := 105) (ck_get kk_Mo_salted 21 rfl) (by decide) (by omega) (by omega) (fun hc38 => ?_) (fun hc38 => ?_) | refine wp_icmp_gt (t := 105) (ck_get kk_Mo_salted 21 rfl) (by decide) (fun hc38 => ?_) (fun hc38 => ?_)
    · omega
    · refine wp_sipush (v := nI 617) (by decide) (ck_get kk_Mo_salted 22 rfl) ?_
      refine wp_aload_n rfl (ck_get kk_Mo_salted 23 rfl) ?_
      refine wp_getR (ck_get kk_Mo_salted 24 rfl) fl_Mo_28 (by assumption) (by assumption) ?_
      refine wp_iload_n rfl (ck_get kk_Mo_salted 25 rfl) ?_
      refine wp_bipush (v := nI 59) (by decide) (ck_get kk_Mo_salted 26 rfl) ?_
      refine wp_iload rfl (ck_get kk_Mo_salted 27 rfl) ?_
      first | refine wp_iaddN (ck_get kk_Mo_salted 28 rfl) ?_ | refine wp_iadd (ck_get kk_Mo_salted 28 rfl) ?_
      refine wp_cS2i (ck_get kk_Mo_salted 29 rfl) ml_Mo_142 (by omega) (Nat.le_of_ble_eq_true rfl) (Ci.to (m_at) ?_)
      rintro _ M1 ⟨rfl, eqm1⟩
      obtain rfl := eqm1.symm
      refine wp_ialdv (v := nI (L.getD i 0)) (ck_get kk_Mo_salted 30 rfl) (by assumption) (ixk_nI (k := 92 * t + (59 + (i + 1))) (by omega) (by omega)) (ei) ?_
      first | refine wp_imulN (ck_get kk_Mo_salted 31 rfl) ?_ | refine wp_imul (ck_get kk_Mo_salted 31 rfl) ?_
      refine wp_istore (ck_get kk_Mo_salted 32 rfl) (by decide) rfl ?_
      refine wp_iconst (v := nI 0) (by decide) (ck_get kk_Mo_salted 33 rfl) ?_
      refine wp_istore (ck_get kk_Mo_salted 34 rfl) (by decide) rfl ?_
      refine l_salt1 (M := M) (n := i * lim) (hs := 617 * L.getD i 0) (lim := lim) (by omega) (by omega) hl ?_ 1000 0 (by omega)
      first | refine wp_iincN (ck_get kk_Mo_salted 53 rfl) rfl (by decide) rfl ?_ | refine wp_iinc (ck_get kk_Mo_salted 53 rfl) rfl (by decide) rfl ?_
      refine wp_goto (t := 25) (ck_get kk_Mo_salted 54 rfl) (by decide) ?_
      have e := ih (i + 1) (some (.int (nI (617 * L.getD i 0)))) (some (.int (nI 1000))) (by omega)
      rw [Nat.succ_mul] at e
      exact e
theorem b_salted {t w : Int32} : Both g Y_Mc_salted Y_Mo_salted [.int t, .int w] := by
  intro c z hc hO
  by_cases hin : inB t 4 = true ∧ inB w 1001 = true ∧ ¬ w = nI 0
  · obtain ⟨bt, bw, hw0⟩ := hin
    obtain ⟨k, ht, rfl⟩ := inB_t bt (by omega)
    obtain ⟨j, hj, rfl⟩ := inB_t bw (by omega)
    have hj0 : 1 ≤ j := by
      rcases Nat.eq_zero_or_pos j with e | e
      · subst e; exact absurd rfl hw0
      · exact e
    have hTO := hO.1.1.2 k ht
    refine ⟨nI ((tRe ((sWo (zS z)).2 k)).length * j), z, hO.le (by omega), fun M h => ?_, fun M h => ?_⟩
    · skip
      have hC' := h.le (Nat.le_succ c)
      obtain ⟨pf, pg, hL, hSC, hTC, hIC, hDC, hPC, hNC, hBC, hZC⟩ := h
      obtain ⟨t0, ⟨r00, hSh⟩, ⟨r01, hTr⟩, ⟨r02, hTg⟩, ⟨r03, hWa⟩, ⟨r04, hWp⟩, ⟨r06, t921, r921a, r921b, hS0, hS1⟩, ⟨r07, t922⟩, ⟨r08, t923⟩, ⟨r010, hPa⟩, ⟨r011, hJu⟩, ⟨r012, hRe⟩, ⟨r013, hCu⟩, ⟨r014, hDe⟩, ⟨r018, t959⟩, hPf⟩ := id hL
      have t1 : mT M 1 = (6, 0) := hSh.1
      have r10 : mR M 1 0 = some 2 := hSh.2.1
      have hW2 : WoAt (mT M) (mR M) 2 := hSh.2.2.1
      have t2 : mT M 2 = (9, 0) := hW2.1
      have r20 : mR M 2 0 = some 3 := hW2.2.1
      have t3 : mT M 3 = (24, 4) := hW2.2.2.1
      have t31 : mT M 31 = (8, 0) := hTr.1
      have t924 : mT M 924 = (3, 0) := hPa.1
      have t934 : mT M 934 = (2, 0) := hJu.1
      have t938 : mT M 938 = (5, 0) := hRe.1
      have t947 : mT M 947 = (0, 0) := hCu.1
      have t952 : mT M 952 = (1, 0) := hDe.1
      have rTe : mR M 3 k = some (4 + 6 * k) := (hW2.2.2.2 k ht).1
      have hTA : TeAt (mT M) (mR M) (4 + 6 * k) := (hW2.2.2.2 k ht).2
      have hTH : TeHas (mI M) (mJ M) (4 + 6 * k) ((sWo (zS z)).2 k) := hSC.1.2 k ht
      have tTe := hTA.1
      have e8 := hTH.2.2.2.2.2.2.2.1
      refine cw_entry 0 pf_Mc_salted rfl ?_
      refine wp_iload_n rfl (ck_get kk_Mc_salted 0 rfl) ?_
      refine wp_cS1i (ck_get kk_Mc_salted 1 rfl) ml_Mc_103 (by omega) (Nat.le_of_ble_eq_true rfl) (Ci.to (c_isTenant) ?_)
      rintro _ M1 ⟨rfl, eqm1⟩
      obtain rfl := eqm1.symm
      rw [bt]
      first | refine wp_if_eqN (t := 19) (ck_get kk_Mc_salted 2 rfl) (by decide) (by omega) (fun hc4 => ?_) (fun hc4 => ?_) | refine wp_if_eq (t := 19) (ck_get kk_Mc_salted 2 rfl) (by decide) (fun hc4 => ?_) (fun hc4 => ?_)
      · exact absurd hc4 (by decide)
      · refine wp_iload_n rfl (ck_get kk_Mc_salted 3 rfl) ?_
        refine wp_iconst (v := nI 1) (by decide) (ck_get kk_Mc_salted 4 rfl) ?_
        first | refine wp_icmp_ltN (t := 19) (ck_get kk_Mc_salted 5 rfl) (by decide) (by omega) (by omega) (fun hc9 => ?_) (fun hc9 => ?_) | refine wp_icmp_lt (t := 19) (ck_get kk_Mc_salted 5 rfl) (by decide) (fun hc9 => ?_) (fun hc9 => ?_)
        · omega
        · refine wp_iload_n rfl (ck_get kk_Mc_salted 6 rfl) ?_
          refine wp_sipush (v := nI 1000) (by decide) (ck_get kk_Mc_salted 7 rfl) ?_
          first | refine wp_icmp_leN (t := 21) (ck_get kk_Mc_salted 8 rfl) (by decide) (by omega) (by omega) (fun hc16 => ?_) (fun hc16 => ?_) | refine wp_icmp_le (t := 21) (ck_get kk_Mc_salted 8 rfl) (by decide) (fun hc16 => ?_) (fun hc16 => ?_)
          · refine wp_aload_n rfl (ck_get kk_Mc_salted 11 rfl) ?_
            refine wp_getR (ck_get kk_Mc_salted 12 rfl) fl_Mc_12 (by assumption) (by assumption) ?_
            refine wp_getR (ck_get kk_Mc_salted 13 rfl) fl_Mc_107 (by assumption) (by assumption) ?_
            refine wp_getR (ck_get kk_Mc_salted 14 rfl) fl_Mc_110 (by assumption) (by assumption) ?_
            refine wp_iload_n rfl (ck_get kk_Mc_salted 15 rfl) ?_
            refine wp_aald (ck_get kk_Mc_salted 16 rfl) (by assumption) (by first | assumption | exact ixk_nI (by omega) (by omega)) (by assumption) ?_
            first | refine wp_getIv (ck_get kk_Mc_salted 17 rfl) fl_Mc_125 (by assumption) (by assumption) ?_ | refine wp_getI (ck_get kk_Mc_salted 17 rfl) fl_Mc_125 (by assumption) ?_
            refine wp_iload_n rfl (ck_get kk_Mc_salted 18 rfl) ?_
            first | refine wp_imulN (ck_get kk_Mc_salted 19 rfl) ?_ | refine wp_imul (ck_get kk_Mc_salted 19 rfl) ?_
            refine wp_ireturn (ck_get kk_Mc_salted 20 rfl) rfl rfl ⟨_, rfl, ?_⟩
            exact ⟨rfl, hC', MSame.refl _⟩
          · omega
    · skip
      obtain ⟨hM, hSM, hUM, hIM, hDM, hPM, hNM, hBM⟩ := id h
      have to0 := hM.1
      have hl : decide (nI 1 ≤ nI j ∧ nI j ≤ nI 1000) = true := decide_eq_true ⟨nI_le (by omega) (by omega), nI_le (by omega) (by omega)⟩
      refine cw_entry 4 pf_Mo_salted rfl ?_
      refine wp_iload_n rfl (ck_get kk_Mo_salted 0 rfl) ?_
      refine wp_cS1i (ck_get kk_Mo_salted 1 rfl) ml_Mo_152 (by omega) (Nat.le_of_ble_eq_true rfl) (Ci.to (m_isTenant) ?_)
      rintro _ M1 ⟨rfl, eqm1⟩
      obtain rfl := eqm1.symm
      rw [bt]
      first | refine wp_if_eqN (t := 18) (ck_get kk_Mo_salted 2 rfl) (by decide) (by omega) (fun hc4 => ?_) (fun hc4 => ?_) | refine wp_if_eq (t := 18) (ck_get kk_Mo_salted 2 rfl) (by decide) (fun hc4 => ?_) (fun hc4 => ?_)
      · exact absurd hc4 (by decide)
      · refine wp_iload_n rfl (ck_get kk_Mo_salted 3 rfl) ?_
        refine wp_iconst (v := nI 1) (by decide) (ck_get kk_Mo_salted 4 rfl) ?_
        refine wp_sipush (v := nI 1000) (by decide) (ck_get kk_Mo_salted 5 rfl) ?_
        refine wp_cS3i (ck_get kk_Mo_salted 6 rfl) ml_Mo_18 (by omega) (Nat.le_of_ble_eq_true rfl) (Ci.to (m_liesG) ?_)
        rintro _ M1 ⟨rfl, eqm1⟩
        obtain rfl := eqm1.symm
        rw [hl]
        first | refine wp_if_neN (t := 20) (ck_get kk_Mo_salted 7 rfl) (by decide) (by omega) (fun hc15 => ?_) (fun hc15 => ?_) | refine wp_if_ne (t := 20) (ck_get kk_Mo_salted 7 rfl) (by decide) (fun hc15 => ?_) (fun hc15 => ?_)
        · refine wp_iconst (v := nI 0) (by decide) (ck_get kk_Mo_salted 10 rfl) ?_
          refine wp_istore_n (ck_get kk_Mo_salted 11 rfl) (by decide) rfl ?_
          refine wp_iconst (v := nI 1) (by decide) (ck_get kk_Mo_salted 12 rfl) ?_
          refine wp_istore (ck_get kk_Mo_salted 13 rfl) (by decide) rfl ?_
          have e := l_salt2 (g := g) (M := M) hM ht (hSM.1.t (b := 0) (pb := 0) ht).2.2.2.2.2 hTO.2.2.1 hTO.2.2.2.2.2.2 (lim := j) (by omega) _ 0 none none (Nat.zero_add _)
          rw [Nat.zero_mul] at e
          refine e.mono ?_
          rintro r M2 ⟨x, rfl, rfl, rfl⟩
          exact ⟨_, rfl, rfl, h, CSame.refl _⟩
        · exact absurd hc15 (by decide)
  · have hno : inB t 4 = true → ∀ (a : ¬ w < nI 1) (b : ¬ nI 1000 < w), False := fun q a b => by
      rcases i32c w 1001 (by omega) with ⟨j, hj, rfl⟩ | e
      · refine hin ⟨q, inB_nI hj (by omega), fun e => ?_⟩
        rw [e] at a
        exact a (by decide)
      · exact i32o e 1 1000 rfl (by omega) (by omega) a b
    refine ⟨-1, z, hO.le (by omega), fun M h => ?_, fun M h => ?_⟩
    · skip
      have hC' := h.le (Nat.le_succ c)
      obtain ⟨pf, pg, hL, hSC, hTC, hIC, hDC, hPC, hNC, hBC, hZC⟩ := h
      obtain ⟨t0, ⟨r00, hSh⟩, ⟨r01, hTr⟩, ⟨r02, hTg⟩, ⟨r03, hWa⟩, ⟨r04, hWp⟩, ⟨r06, t921, r921a, r921b, hS0, hS1⟩, ⟨r07, t922⟩, ⟨r08, t923⟩, ⟨r010, hPa⟩, ⟨r011, hJu⟩, ⟨r012, hRe⟩, ⟨r013, hCu⟩, ⟨r014, hDe⟩, ⟨r018, t959⟩, hPf⟩ := id hL
      have t1 : mT M 1 = (6, 0) := hSh.1
      have r10 : mR M 1 0 = some 2 := hSh.2.1
      have hW2 : WoAt (mT M) (mR M) 2 := hSh.2.2.1
      have t2 : mT M 2 = (9, 0) := hW2.1
      have r20 : mR M 2 0 = some 3 := hW2.2.1
      have t3 : mT M 3 = (24, 4) := hW2.2.2.1
      have t31 : mT M 31 = (8, 0) := hTr.1
      have t924 : mT M 924 = (3, 0) := hPa.1
      have t934 : mT M 934 = (2, 0) := hJu.1
      have t938 : mT M 938 = (5, 0) := hRe.1
      have t947 : mT M 947 = (0, 0) := hCu.1
      have t952 : mT M 952 = (1, 0) := hDe.1
      refine cw_entry 0 pf_Mc_salted rfl ?_
      refine wp_iload_n rfl (ck_get kk_Mc_salted 0 rfl) ?_
      refine wp_cS1i (ck_get kk_Mc_salted 1 rfl) ml_Mc_103 (by omega) (Nat.le_of_ble_eq_true rfl) (Ci.to (c_isTenant) ?_)
      rintro _ M1 ⟨rfl, eqm1⟩
      obtain rfl := eqm1.symm
      refine wp_if_eq (t := 19) (ck_get kk_Mc_salted 2 rfl) (by decide) (fun hc4 => ?_) (fun hc4 => ?_)
      · refine wp_iconst (v := (-1)) (by decide) (ck_get kk_Mc_salted 9 rfl) ?_
        refine wp_ireturn (ck_get kk_Mc_salted 10 rfl) rfl rfl ⟨_, rfl, ?_⟩
        exact ⟨rfl, hC', MSame.refl _⟩
      · refine wp_iload_n rfl (ck_get kk_Mc_salted 3 rfl) ?_
        refine wp_iconst (v := nI 1) (by decide) (ck_get kk_Mc_salted 4 rfl) ?_
        refine wp_icmp_lt (t := 19) (ck_get kk_Mc_salted 5 rfl) (by decide) (fun hc9 => ?_) (fun hc9 => ?_)
        · refine wp_iconst (v := (-1)) (by decide) (ck_get kk_Mc_salted 9 rfl) ?_
          refine wp_ireturn (ck_get kk_Mc_salted 10 rfl) rfl rfl ⟨_, rfl, ?_⟩
          exact ⟨rfl, hC', MSame.refl _⟩
        · refine wp_iload_n rfl (ck_get kk_Mc_salted 6 rfl) ?_
          refine wp_sipush (v := nI 1000) (by decide) (ck_get kk_Mc_salted 7 rfl) ?_
          refine wp_icmp_le (t := 21) (ck_get kk_Mc_salted 8 rfl) (by decide) (fun hc16 => ?_) (fun hc16 => ?_)
          · exact (hno (bI_1 hc4) hc9 (fun h => by have a := Int32.lt_iff_toInt_lt.mp h; have b := Int32.le_iff_toInt_le.mp hc16; omega)).elim
          · refine wp_iconst (v := (-1)) (by decide) (ck_get kk_Mc_salted 9 rfl) ?_
            refine wp_ireturn (ck_get kk_Mc_salted 10 rfl) rfl rfl ⟨_, rfl, ?_⟩
            exact ⟨rfl, hC', MSame.refl _⟩
    · skip
      obtain ⟨hM, hSM, hUM, hIM, hDM, hPM, hNM, hBM⟩ := id h
      have to0 := hM.1
      refine cw_entry 4 pf_Mo_salted rfl ?_
      refine wp_iload_n rfl (ck_get kk_Mo_salted 0 rfl) ?_
      refine wp_cS1i (ck_get kk_Mo_salted 1 rfl) ml_Mo_152 (by omega) (Nat.le_of_ble_eq_true rfl) (Ci.to (m_isTenant) ?_)
      rintro _ M1 ⟨rfl, eqm1⟩
      obtain rfl := eqm1.symm
      refine wp_if_eq (t := 18) (ck_get kk_Mo_salted 2 rfl) (by decide) (fun hc4 => ?_) (fun hc4 => ?_)
      · refine wp_iconst (v := (-1)) (by decide) (ck_get kk_Mo_salted 8 rfl) ?_
        refine wp_ireturn (ck_get kk_Mo_salted 9 rfl) rfl rfl ⟨_, rfl, ?_⟩
        exact ⟨rfl, h, CSame.refl _⟩
      · refine wp_iload_n rfl (ck_get kk_Mo_salted 3 rfl) ?_
        refine wp_iconst (v := nI 1) (by decide) (ck_get kk_Mo_salted 4 rfl) ?_
        refine wp_sipush (v := nI 1000) (by decide) (ck_get kk_Mo_salted 5 rfl) ?_
        refine wp_cS3i (ck_get kk_Mo_salted 6 rfl) ml_Mo_18 (by omega) (Nat.le_of_ble_eq_true rfl) (Ci.to (m_liesG) ?_)
        rintro _ M1 ⟨rfl, eqm1⟩
        obtain rfl := eqm1.symm
        refine wp_if_ne (t := 20) (ck_get kk_Mo_salted 7 rfl) (by decide) (fun hc15 => ?_) (fun hc15 => ?_)
        · exfalso
          have q := of_decide_eq_true (bI_1 hc15)
          exact hno (bI_1 hc4) (fun h => by have a := Int32.lt_iff_toInt_lt.mp h; have b := Int32.le_iff_toInt_le.mp q.1; omega) (fun h => by have a := Int32.lt_iff_toInt_lt.mp h; have b := Int32.le_iff_toInt_le.mp q.2; omega)
        · refine wp_iconst (v := (-1)) (by decide) (ck_get kk_Mo_salted 8 rfl) ?_
          refine wp_ireturn (ck_get kk_Mo_salted 9 rfl) rfl rfl ⟨_, rfl, ?_⟩
          exact ⟨rfl, h, CSame.refl _⟩
end SLT
