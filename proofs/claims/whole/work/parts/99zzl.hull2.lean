/-! ===== hull ===== -/
section HUL2
variable {g : Gl} {M : Mem}
theorem mz_b {w : WS} {t : Nat} (ht : t < 4) (hB : tot w ≤ 400000000) : ∀ c, c < 25 → 0 ≤ mz w t c ∧ mz w t c ≤ 400000000 := fun c hc => by
  have h1 := msN_le (w := w) (t := t) hc
  have h2 : sTo w t ≤ tot w := smN_at (f := fun t => smN (tCo (w.2 t)) 25) ht
  show (0 : Int) ≤ (msN w t c : Int) ∧ (msN w t c : Int) ≤ 400000000
  omega
/-- the hull's line has been looked at -/
def HlP (f : Nat → Int) (c i a b : Nat) : Prop := (c = nbI f i ∨ c = nbI f (i + 1)) ∨ nbI f i < a ∨ (nbI f i = a ∧ nbI f (i + 1) < b)
theorem m_hullW {W : Mem} {f : Nat → Int} {t c i : Nat} (hM : MoAt (mT W) (mR W) 1020) (ht : t < 4) (hf : ∀ c, c < 25 → ∃ n : Nat, mI W 1040 (25 * t + c) = nI n ∧ f c = n ∧ n ≤ 400000000) (hc : c ≤ 24) (hi : SgI f c i) : Wp g Y_Mo_hull 300 23 [some (.ref 1020), some (.int (nI t)), some (.int (nI c)), none, none, none, none, none, none] [] W (fun r M2 => ∃ x, r = some (.long x) ∧ x = jI (hlV f c i) ∧ M2 = W) := by
  have to0 := hM.1
  have hb : ∀ c, c < 25 → 0 ≤ f c ∧ f c ≤ 400000000 := fun c hc => by
    obtain ⟨n, -, e2, e3⟩ := hf c hc
    omega
  obtain ⟨q1, q2, q3, q4⟩ := sg_le hi
  have q5 := hi.2.2
  have v0 := hl_0 hb hi
  have vc := hl_c hb hi hc
  have bc := hb c (by omega)
  have hin : ∀ {Q : Option Value → Mem → Prop} (a : Nat), a < c → (∀ (L : Int) (x6 x7 : Option Value), hlV f c i ≤ L → L ≤ 400000000000 → (HlP f c i (a + 1) (c + 1) → L ≤ hlV f c i) → Wp g Y_Mo_hull 300 99 [some (.ref 1020), some (.int (nI t)), some (.int (nI c)), some (.long (jI L)), none, some (.int (nI a)), x6, x7, none] [] W Q) → ∀ e b (L : Int) (x7 : Option Value), b + e = 25 → c < b → hlV f c i ≤ L → L ≤ 400000000000 → (HlP f c i a b → L ≤ hlV f c i) → Wp g Y_Mo_hull 300 49 [some (.ref 1020), some (.int (nI t)), some (.int (nI c)), some (.long (jI L)), none, some (.int (nI a)), some (.int (nI b)), x7, none] [] W Q := by
    intro Q a ha K e
    induction e with
    | zero =>
      intro b L x7 h1 h2 h3 h4 h5
      obtain rfl : b = 25 := by omega
      refine wp_iload rfl (ck_get kk_Mo_hull 28 rfl) ?_
      refine wp_bipush (v := nI 24) (by decide) (ck_get kk_Mo_hull 29 rfl) ?_
      first | refine wp_icmp_gtN (t := 99) (ck_get kk_Mo_hull 30 rfl) (by decide) (by omega) (by omega) (fun hc53 => ?_) (fun hc53 => ?_) | refine wp_icmp_gt (t := 99) (ck_get kk_Mo_hull 30 rfl) (by decide) (fun hc53 => ?_) (fun hc53 => ?_)
      · exact K L _ _ h3 h4 (fun p => h5 (by unfold HlP at p ⊢; omega))
      · omega
    | succ e ih =>
      intro b L x7 h1 h2 h3 h4 h5
      have lb := li_b hb (a := a) (b := b) (c := c) (by omega) (by omega) (by omega)
      have lb' : 0 ≤ f a * ((b : Int) - c) + f b * ((c : Int) - a) ∧ f a * ((b : Int) - c) + f b * ((c : Int) - a) ≤ 20000000000 := lb
      have hle := hl_le hb hi (a := a) (b := b) ha h2 (by omega)
      have hle2 : liD f a b c ≤ 20000000000000 := by
        rw [li_e hb (by omega) (by omega) (by omega)]
        refine Int.ediv_le_of_le_mul (by omega) ?_
        have : (20000000000000 : Int) * 1 ≤ 20000000000000 * ((b : Int) - a) := Int.mul_le_mul_of_nonneg_left (by omega) (by omega)
        omega
      have heq : nbI f i = a → nbI f (i + 1) = b → liD f a b c = hlV f c i := fun e1 e2 => by
        show _ = liD f (nbI f i) (nbI f (i + 1)) c
        rw [e1, e2]
      refine wp_iload rfl (ck_get kk_Mo_hull 28 rfl) ?_
      refine wp_bipush (v := nI 24) (by decide) (ck_get kk_Mo_hull 29 rfl) ?_
      first | refine wp_icmp_gtN (t := 99) (ck_get kk_Mo_hull 30 rfl) (by decide) (by omega) (by omega) (fun hc53 => ?_) (fun hc53 => ?_) | refine wp_icmp_gt (t := 99) (ck_get kk_Mo_hull 30 rfl) (by decide) (fun hc53 => ?_) (fun hc53 => ?_)
      · omega
      · refine wp_ldc2 kl_Mo_415 (ck_get kk_Mo_hull 31 rfl) ?_
        rw [j1000]
        refine wp_aload_n rfl (ck_get kk_Mo_hull 32 rfl) ?_
        refine wp_iload_n rfl (ck_get kk_Mo_hull 33 rfl) ?_
        refine wp_iload rfl (ck_get kk_Mo_hull 34 rfl) ?_
        refine wp_iload rfl (ck_get kk_Mo_hull 35 rfl) ?_
        refine wp_iload_n rfl (ck_get kk_Mo_hull 36 rfl) ?_
        refine wp_cV4l (ck_get kk_Mo_hull 37 rfl) ml_Mo_417 (by omega) (Nat.le_of_ble_eq_true rfl) (by assumption) (Cl.to (m_lineAt hM ht hf (by omega) (by omega) (by omega)) ?_)
        rintro _ M1 ⟨rfl, eqm1⟩
        obtain rfl := eqm1.symm
        refine wp_lmul (ck_get kk_Mo_hull 38 rfl) ?_
        rw [← Int64.ofInt_mul]
        refine wp_iload rfl (ck_get kk_Mo_hull 39 rfl) ?_
        refine wp_iload rfl (ck_get kk_Mo_hull 40 rfl) ?_
        first | refine wp_isubN (ck_get kk_Mo_hull 41 rfl) (by omega) ?_ | refine wp_isub (ck_get kk_Mo_hull 41 rfl) ?_
        refine wp_i2l (ck_get kk_Mo_hull 42 rfl) ?_
        rw [j_sub (by omega) (by omega)]
        refine wp_ldiv (j_ne0 (by omega) (by omega)) (ck_get kk_Mo_hull 43 rfl) ?_
        rw [j_div (by omega) (by omega) (by omega) (by omega)]
        refine wp_lstore (ck_get kk_Mo_hull 44 rfl) (by decide) rfl ?_
        refine wp_lload rfl (ck_get kk_Mo_hull 45 rfl) ?_
        refine wp_lload_n rfl (ck_get kk_Mo_hull 46 rfl) ?_
        refine wp_lcmp (ck_get kk_Mo_hull 47 rfl) ?_
        refine wp_if_ge (t := 91) (ck_get kk_Mo_hull 48 rfl) (by decide) (fun hc83 => ?_) (fun hc83 => ?_)
        · refine wp_lload_n rfl (ck_get kk_Mo_hull 51 rfl) ?_
          refine wp_lstore_n (ck_get kk_Mo_hull 52 rfl) (by decide) rfl ?_
          first | refine wp_iincN (ck_get kk_Mo_hull 53 rfl) rfl (by decide) rfl ?_ | refine wp_iinc (ck_get kk_Mo_hull 53 rfl) rfl (by decide) rfl ?_
          refine wp_goto (t := 49) (ck_get kk_Mo_hull 54 rfl) (by decide) ?_
          have q := mt (jI_lt (x := liD f a b c) (y := L) (by omega) (by omega) (by omega) (by omega)).mpr ((lcmp_ge _ _).mp hc83)
          refine ih (b + 1) L _ (by omega) (by omega) h3 h4 (fun p => ?_)
          by_cases e : nbI f i = a ∧ nbI f (i + 1) = b
          · have := heq e.1 e.2
            omega
          · exact h5 (by unfold HlP at p ⊢; omega)
        · refine wp_lload rfl (ck_get kk_Mo_hull 49 rfl) ?_
          refine wp_goto (t := 92) (ck_get kk_Mo_hull 50 rfl) (by decide) ?_
          refine wp_lstore_n (ck_get kk_Mo_hull 52 rfl) (by decide) rfl ?_
          first | refine wp_iincN (ck_get kk_Mo_hull 53 rfl) rfl (by decide) rfl ?_ | refine wp_iinc (ck_get kk_Mo_hull 53 rfl) rfl (by decide) rfl ?_
          refine wp_goto (t := 49) (ck_get kk_Mo_hull 54 rfl) (by decide) ?_
          have q := (jI_lt (x := liD f a b c) (y := L) (by omega) (by omega) (by omega) (by omega)).mp (Decidable.not_not.mp (mt (lcmp_ge _ _).mpr hc83))
          refine ih (b + 1) (liD f a b c) _ (by omega) (by omega) hle (by omega) (fun p => ?_)
          by_cases e : nbI f i = a ∧ nbI f (i + 1) = b
          · have := heq e.1 e.2
            omega
          · have := h5 (by unfold HlP at p ⊢; omega)
            omega
  have hlp : ∀ e a (L : Int) (x6 x7 : Option Value), a + e = c → hlV f c i ≤ L → L ≤ 400000000000 → (HlP f c i a (c + 1) → L ≤ hlV f c i) → Wp g Y_Mo_hull 300 38 [some (.ref 1020), some (.int (nI t)), some (.int (nI c)), some (.long (jI L)), none, some (.int (nI a)), x6, x7, none] [] W (fun r M2 => ∃ x, r = some (.long x) ∧ x = jI (hlV f c i) ∧ M2 = W) := by
    intro e
    induction e with
    | zero =>
      intro a L x6 x7 h1 h3 h4 h5
      obtain rfl : a = c := by omega
      have := h5 (by unfold HlP; omega)
      obtain rfl : L = hlV f a i := by omega
      refine wp_iload rfl (ck_get kk_Mo_hull 21 rfl) ?_
      refine wp_iload_n rfl (ck_get kk_Mo_hull 22 rfl) ?_
      first | refine wp_icmp_geN (t := 105) (ck_get kk_Mo_hull 23 rfl) (by decide) (by omega) (by omega) (fun hc41 => ?_) (fun hc41 => ?_) | refine wp_icmp_ge (t := 105) (ck_get kk_Mo_hull 23 rfl) (by decide) (fun hc41 => ?_) (fun hc41 => ?_)
      · refine wp_lload_n rfl (ck_get kk_Mo_hull 57 rfl) ?_
        refine wp_lreturn (ck_get kk_Mo_hull 58 rfl) rfl ⟨_, rfl, ?_⟩
        exact ⟨rfl, rfl⟩
      · omega
    | succ e ih =>
      intro a L x6 x7 h1 h3 h4 h5
      refine wp_iload rfl (ck_get kk_Mo_hull 21 rfl) ?_
      refine wp_iload_n rfl (ck_get kk_Mo_hull 22 rfl) ?_
      first | refine wp_icmp_geN (t := 105) (ck_get kk_Mo_hull 23 rfl) (by decide) (by omega) (by omega) (fun hc41 => ?_) (fun hc41 => ?_) | refine wp_icmp_ge (t := 105) (ck_get kk_Mo_hull 23 rfl) (by decide) (fun hc41 => ?_) (fun hc41 => ?_)
      · omega
      · refine wp_iload_n rfl (ck_get kk_Mo_hull 24 rfl) ?_
        refine wp_iconst (v := nI 1) (by decide) (ck_get kk_Mo_hull 25 rfl) ?_
        first | refine wp_iaddN (ck_get kk_Mo_hull 26 rfl) ?_ | refine wp_iadd (ck_get kk_Mo_hull 26 rfl) ?_
        refine wp_istore (ck_get kk_Mo_hull 27 rfl) (by decide) rfl ?_
        refine hin a (by omega) (fun L x6 x7 h3 h4 h5 => ?_) (24 - c) (c + 1) L _ (by omega) (by omega) h3 h4 h5
        first | refine wp_iincN (ck_get kk_Mo_hull 55 rfl) rfl (by decide) rfl ?_ | refine wp_iinc (ck_get kk_Mo_hull 55 rfl) rfl (by decide) rfl ?_
        refine wp_goto (t := 38) (ck_get kk_Mo_hull 56 rfl) (by decide) ?_
        exact ih (a + 1) L _ _ (by omega) h3 h4 h5
  obtain ⟨nc, c1, c2, c3⟩ := hf c (by omega)
  refine wp_ldc2 kl_Mo_415 (ck_get kk_Mo_hull 11 rfl) ?_
  rw [j1000]
  refine wp_aload_n rfl (ck_get kk_Mo_hull 12 rfl) ?_
  refine wp_iload_n rfl (ck_get kk_Mo_hull 13 rfl) ?_
  refine wp_iload_n rfl (ck_get kk_Mo_hull 14 rfl) ?_
  refine wp_cV2i (ck_get kk_Mo_hull 15 rfl) ml_Mo_410 (by omega) (Nat.le_of_ble_eq_true rfl) (by assumption) (Ci.to (m_missAt hM ht (by omega)) ?_)
  rintro x M1 ⟨w1, w2⟩
  rw [c1] at w1
  subst w1 w2
  refine wp_i2l (ck_get kk_Mo_hull 16 rfl) ?_
  rw [j_nI (by omega), ← c2]
  refine wp_lmul (ck_get kk_Mo_hull 17 rfl) ?_
  rw [← Int64.ofInt_mul]
  refine wp_lstore_n (ck_get kk_Mo_hull 18 rfl) (by decide) rfl ?_
  refine wp_iconst (v := nI 0) (by decide) (ck_get kk_Mo_hull 19 rfl) ?_
  refine wp_istore (ck_get kk_Mo_hull 20 rfl) (by decide) rfl ?_
  refine hlp c 0 (1000 * f c) _ _ (by omega) vc (by omega) (fun p => ?_)
  rcases p with p | p | p
  · rw [hl_at hb hi p]; exact Int.le_refl _
  · omega
  · have p2 := p.2
    rw [hl_at hb hi (Or.inr (by omega))]; exact Int.le_refl _
theorem b_hull {a b : Int32} : BothJ g Y_Mc_hull Y_Mo_hull [.int a, .int b] := by
  intro c z hc hO
  have hB : tot (sWo (zS z)) ≤ 400000000 := by
    have h1 : tot (sWo (zS z)) ≤ bC c := hO.1.2.1
    have h2 : bC c < 400000000 := by unfold bC; omega
    omega
  by_cases hin : inB a 4 = true
  · by_cases hin2 : inB b 25 = true
    · obtain ⟨t, ht, rfl⟩ := inB_t hin (by omega)
      obtain ⟨k, hk, rfl⟩ := inB_t hin2 (by omega)
      obtain ⟨i, hi⟩ := sg_ex (f := mz (sWo (zS z)) t) (c := k) (by omega)
      refine ⟨jI (hlV (mz (sWo (zS z)) t) k i), fun M h => ?_, fun M h => ?_⟩
      · have hCR := h
        have hC' := h.le (Nat.le_succ c)
        obtain ⟨pf, pg, hL, hSC, hTC, hIC, hDC, hPC, hNC, hBC, hZC⟩ := h
        obtain ⟨t0, ⟨r00, hSh⟩, ⟨r01, hTr⟩, ⟨r02, hTg⟩, ⟨r03, hWa⟩, ⟨r04, hWp⟩, ⟨r06, t921, r921a, r921b, hS0, hS1⟩, ⟨r07, t922⟩, ⟨r08, t923⟩, ⟨r010, hPa⟩, ⟨r011, hJu⟩, ⟨r012, hRe⟩, ⟨r013, hCu⟩, ⟨r014, hDe⟩, ⟨r018, t959⟩, hPf⟩ := id hL
        have t1 : mT M 1 = (6, 0) := hSh.1
        have r10 : mR M 1 0 = some 2 := hSh.2.1
        have hW2 : WoAt (mT M) (mR M) 2 := hSh.2.2.1
        have t2 : mT M 2 = (9, 0) := hW2.1
        have r20 : mR M 2 0 = some 3 := hW2.2.1
        have t3 : mT M 3 = (24, 4) := hW2.2.2.1
        have t31 : mT M 31 = (8, 0) := hTr.1
        have t924 : mT M 924 = (3, 0) := hPa.1
        have t934 : mT M 934 = (2, 0) := hJu.1
        have t938 : mT M 938 = (5, 0) := hRe.1
        have t947 : mT M 947 = (0, 0) := hCu.1
        have t952 : mT M 952 = (1, 0) := hDe.1
        have rTe : mR M 3 t = some (4 + 6 * t) := (hW2.2.2.2 t ht).1
        have hTA : TeAt (mT M) (mR M) (4 + 6 * t) := (hW2.2.2.2 t ht).2
        have hTH : TeHas (mI M) (mJ M) (4 + 6 * t) ((sWo (zS z)).2 t) := hSC.1.2 t ht
        have tTe := hTA.1
        refine cw_entry 0 pf_Mc_hull rfl ?_
        refine wp_iload_n rfl (ck_get kk_Mc_hull 0 rfl) ?_
        refine wp_cS1i (ck_get kk_Mc_hull 1 rfl) ml_Mc_103 (by omega) (Nat.le_of_ble_eq_true rfl) (Ci.to (c_isTenant) ?_)
        rintro _ M1 ⟨rfl, eqm1⟩
        obtain rfl := eqm1.symm
        rw [hin]
        first | refine wp_if_eqN (t := 14) (ck_get kk_Mc_hull 2 rfl) (by decide) (by omega) (fun hc4 => ?_) (fun hc4 => ?_) | refine wp_if_eq (t := 14) (ck_get kk_Mc_hull 2 rfl) (by decide) (fun hc4 => ?_) (fun hc4 => ?_)
        · exact absurd hc4 (by decide)
        · refine wp_iload_n rfl (ck_get kk_Mc_hull 3 rfl) ?_
          refine wp_cS1i (ck_get kk_Mc_hull 4 rfl) ml_Mc_275 (by omega) (Nat.le_of_ble_eq_true rfl) (Ci.to (c_isSize) ?_)
          rintro _ M1 ⟨rfl, eqm1⟩
          obtain rfl := eqm1.symm
          rw [hin2]
          first | refine wp_if_neN (t := 18) (ck_get kk_Mc_hull 5 rfl) (by decide) (by omega) (fun hc11 => ?_) (fun hc11 => ?_) | refine wp_if_ne (t := 18) (ck_get kk_Mc_hull 5 rfl) (by decide) (fun hc11 => ?_) (fun hc11 => ?_)
          · refine wp_aload_n rfl (ck_get kk_Mc_hull 8 rfl) ?_
            refine wp_getR (ck_get kk_Mc_hull 9 rfl) fl_Mc_80 (by assumption) (by assumption) ?_
            refine wp_aload_n rfl (ck_get kk_Mc_hull 10 rfl) ?_
            refine wp_getR (ck_get kk_Mc_hull 11 rfl) fl_Mc_12 (by assumption) (by assumption) ?_
            refine wp_getR (ck_get kk_Mc_hull 12 rfl) fl_Mc_107 (by assumption) (by assumption) ?_
            refine wp_getR (ck_get kk_Mc_hull 13 rfl) fl_Mc_110 (by assumption) (by assumption) ?_
            refine wp_iload_n rfl (ck_get kk_Mc_hull 14 rfl) ?_
            refine wp_aald (ck_get kk_Mc_hull 15 rfl) (by assumption) (by first | assumption | exact ixk_nI (by omega) (by omega)) (by assumption) ?_
            refine wp_cV1v (ck_get kk_Mc_hull 16 rfl) ml_Mc_283 (by omega) (Nat.le_of_ble_eq_true rfl) (by assumption) (Cv.to (c_load (t := t) (w := sWo (zS z)) (by exact hW2) (by exact hSC.1) (by exact hCu) ht hB) ?_)
            rintro M1 ⟨j, b2, r, w1, w2, w3, w4⟩
            subst w1
            refine wp_aload_n rfl (ck_get kk_Mc_hull 17 rfl) ?_
            refine wp_getR (ck_get kk_Mc_hull 18 rfl) fl_Mc_80 (by assumption) (by assumption) ?_
            refine wp_iload_n rfl (ck_get kk_Mc_hull 19 rfl) ?_
            refine wp_cV1l (ck_get kk_Mc_hull 20 rfl) ml_Mc_287 (by omega) (Nat.le_of_ble_eq_true rfl) (by assumption) (Cl.to (c_hullAt (f := mz (sWo (zS z)) t) (by exact hCu) (fun c hc => by rw [cu_j]; exact w2 c hc) (fun i hi => by rw [cu_b]; exact w3 i hi) (by rw [cu_r]; exact w4) (mz_b ht hB) (by omega) hi) ?_)
            rintro _ M1 ⟨rfl, eqm1⟩
            obtain rfl := eqm1.symm
            refine wp_lreturn (ck_get kk_Mc_hull 21 rfl) rfl ⟨_, rfl, ?_⟩
            exact ⟨rfl, hCR.cu, MSame.cu⟩
          · exact absurd hc11 (by decide)
      · skip
        obtain ⟨hM, hSM, hUM, hIM, hDM, hPM, hNM, hBM⟩ := id h
        have to0 := hM.1
        have hf : ∀ c, c < 25 → ∃ n : Nat, mI (lmM M 1020 t 0) 1040 (25 * t + c) = nI n ∧ mz (sWo (zS z)) t c = n ∧ n ≤ 400000000 := fun c hc => by
          refine ⟨msN (sWo (zS z)) t c, ?_, rfl, ?_⟩
          · have e : mI (lmM M 1020 t 0) 1040 (25 * t + c) = lmF (mI M 1040) (mI M 1022) t 0 (25 * t + c) := by
              show up1 (mI M) 1040 (lmF (mI M 1040) (mI M 1022) t 0) 1040 (25 * t + c) = _
              rw [up1_eq]
            rw [e, lm_at hSM.1 ht hc, msW_nI]
          · have := mz_b ht hB c hc
            have h2 : mz (sWo (zS z)) t c = (msN (sWo (zS z)) t c : Int) := rfl
            omega
        refine cw_entry 6 pf_Mo_hull rfl ?_
        refine wp_iload_n rfl (ck_get kk_Mo_hull 0 rfl) ?_
        refine wp_cS1i (ck_get kk_Mo_hull 1 rfl) ml_Mo_152 (by omega) (Nat.le_of_ble_eq_true rfl) (Ci.to (m_isTenant) ?_)
        rintro _ M1 ⟨rfl, eqm1⟩
        obtain rfl := eqm1.symm
        rw [hin]
        first | refine wp_if_eqN (t := 14) (ck_get kk_Mo_hull 2 rfl) (by decide) (by omega) (fun hc4 => ?_) (fun hc4 => ?_) | refine wp_if_eq (t := 14) (ck_get kk_Mo_hull 2 rfl) (by decide) (fun hc4 => ?_) (fun hc4 => ?_)
        · exact absurd hc4 (by decide)
        · refine wp_iload_n rfl (ck_get kk_Mo_hull 3 rfl) ?_
          refine wp_cS1i (ck_get kk_Mo_hull 4 rfl) ml_Mo_404 (by omega) (Nat.le_of_ble_eq_true rfl) (Ci.to (m_isSize) ?_)
          rintro _ M1 ⟨rfl, eqm1⟩
          obtain rfl := eqm1.symm
          rw [hin2]
          first | refine wp_if_neN (t := 18) (ck_get kk_Mo_hull 5 rfl) (by decide) (by omega) (fun hc11 => ?_) (fun hc11 => ?_) | refine wp_if_ne (t := 18) (ck_get kk_Mo_hull 5 rfl) (by decide) (fun hc11 => ?_) (fun hc11 => ?_)
          · refine wp_aload_n rfl (ck_get kk_Mo_hull 8 rfl) ?_
            refine wp_iload_n rfl (ck_get kk_Mo_hull 9 rfl) ?_
            refine wp_cV1v (ck_get kk_Mo_hull 10 rfl) ml_Mo_407 (by omega) (Nat.le_of_ble_eq_true rfl) (by assumption) (Cv.to (m_laysMisses (o := 1020) (t := t) hM ht) ?_)
            rintro M1 w1
            subst w1
            refine (m_hullW (by exact hM) ht hf (by omega) hi).mono ?_
            rintro r M2 ⟨x, rfl, rfl, rfl⟩
            exact ⟨_, rfl, rfl, h.mf, CSame.mf⟩
          · exact absurd hc11 (by decide)
    · have hin' : inB b 25 = false := by simpa using hin2
      refine ⟨-1, fun M h => ?_, fun M h => ?_⟩
      · have hCR := h
        have hC' := h.le (Nat.le_succ c)
        obtain ⟨pf, pg, hL, hSC, hTC, hIC, hDC, hPC, hNC, hBC, hZC⟩ := h
        obtain ⟨t0, ⟨r00, hSh⟩, ⟨r01, hTr⟩, ⟨r02, hTg⟩, ⟨r03, hWa⟩, ⟨r04, hWp⟩, ⟨r06, t921, r921a, r921b, hS0, hS1⟩, ⟨r07, t922⟩, ⟨r08, t923⟩, ⟨r010, hPa⟩, ⟨r011, hJu⟩, ⟨r012, hRe⟩, ⟨r013, hCu⟩, ⟨r014, hDe⟩, ⟨r018, t959⟩, hPf⟩ := id hL
        have t1 : mT M 1 = (6, 0) := hSh.1
        have r10 : mR M 1 0 = some 2 := hSh.2.1
        have hW2 : WoAt (mT M) (mR M) 2 := hSh.2.2.1
        have t2 : mT M 2 = (9, 0) := hW2.1
        have r20 : mR M 2 0 = some 3 := hW2.2.1
        have t3 : mT M 3 = (24, 4) := hW2.2.2.1
        have t31 : mT M 31 = (8, 0) := hTr.1
        have t924 : mT M 924 = (3, 0) := hPa.1
        have t934 : mT M 934 = (2, 0) := hJu.1
        have t938 : mT M 938 = (5, 0) := hRe.1
        have t947 : mT M 947 = (0, 0) := hCu.1
        have t952 : mT M 952 = (1, 0) := hDe.1
        refine cw_entry 0 pf_Mc_hull rfl ?_
        refine wp_iload_n rfl (ck_get kk_Mc_hull 0 rfl) ?_
        refine wp_cS1i (ck_get kk_Mc_hull 1 rfl) ml_Mc_103 (by omega) (Nat.le_of_ble_eq_true rfl) (Ci.to (c_isTenant) ?_)
        rintro _ M1 ⟨rfl, eqm1⟩
        obtain rfl := eqm1.symm
        rw [hin]
        first | refine wp_if_eqN (t := 14) (ck_get kk_Mc_hull 2 rfl) (by decide) (by omega) (fun hc4 => ?_) (fun hc4 => ?_) | refine wp_if_eq (t := 14) (ck_get kk_Mc_hull 2 rfl) (by decide) (fun hc4 => ?_) (fun hc4 => ?_)
        · exact absurd hc4 (by decide)
        · refine wp_iload_n rfl (ck_get kk_Mc_hull 3 rfl) ?_
          refine wp_cS1i (ck_get kk_Mc_hull 4 rfl) ml_Mc_275 (by omega) (Nat.le_of_ble_eq_true rfl) (Ci.to (c_isSize) ?_)
          rintro _ M1 ⟨rfl, eqm1⟩
          obtain rfl := eqm1.symm
          rw [hin']
          first | refine wp_if_neN (t := 18) (ck_get kk_Mc_hull 5 rfl) (by decide) (by omega) (fun hc11 => ?_) (fun hc11 => ?_) | refine wp_if_ne (t := 18) (ck_get kk_Mc_hull 5 rfl) (by decide) (fun hc11 => ?_) (fun hc11 => ?_)
          · exact absurd (by decide) hc11
          · refine wp_ldc2 kl_Mc_281 (ck_get kk_Mc_hull 6 rfl) ?_
            refine wp_lreturn (ck_get kk_Mc_hull 7 rfl) rfl ⟨_, rfl, ?_⟩
            exact ⟨rfl, hC', MSame.refl _⟩
      · skip
        obtain ⟨hM, hSM, hUM, hIM, hDM, hPM, hNM, hBM⟩ := id h
        have to0 := hM.1
        refine cw_entry 6 pf_Mo_hull rfl ?_
        refine wp_iload_n rfl (ck_get kk_Mo_hull 0 rfl) ?_
        refine wp_cS1i (ck_get kk_Mo_hull 1 rfl) ml_Mo_152 (by omega) (Nat.le_of_ble_eq_true rfl) (Ci.to (m_isTenant) ?_)
        rintro _ M1 ⟨rfl, eqm1⟩
        obtain rfl := eqm1.symm
        rw [hin]
        first | refine wp_if_eqN (t := 14) (ck_get kk_Mo_hull 2 rfl) (by decide) (by omega) (fun hc4 => ?_) (fun hc4 => ?_) | refine wp_if_eq (t := 14) (ck_get kk_Mo_hull 2 rfl) (by decide) (fun hc4 => ?_) (fun hc4 => ?_)
        · exact absurd hc4 (by decide)
        · refine wp_iload_n rfl (ck_get kk_Mo_hull 3 rfl) ?_
          refine wp_cS1i (ck_get kk_Mo_hull 4 rfl) ml_Mo_404 (by omega) (Nat.le_of_ble_eq_true rfl) (Ci.to (m_isSize) ?_)
          rintro _ M1 ⟨rfl, eqm1⟩
          obtain rfl := eqm1.symm
          rw [hin']
          first | refine wp_if_neN (t := 18) (ck_get kk_Mo_hull 5 rfl) (by decide) (by omega) (fun hc11 => ?_) (fun hc11 => ?_) | refine wp_if_ne (t := 18) (ck_get kk_Mo_hull 5 rfl) (by decide) (fun hc11 => ?_) (fun hc11 => ?_)
          · exact absurd (by decide) hc11
          · refine wp_ldc2 kl_Mo_413 (ck_get kk_Mo_hull 6 rfl) ?_
            refine wp_lreturn (ck_get kk_Mo_hull 7 rfl) rfl ⟨_, rfl, ?_⟩
            exact ⟨rfl, h, CSame.refl _⟩
  · have hin' : inB a 4 = false := by simpa using hin
    refine ⟨-1, fun M h => ?_, fun M h => ?_⟩
    · have hCR := h
      have hC' := h.le (Nat.le_succ c)
      obtain ⟨pf, pg, hL, hSC, hTC, hIC, hDC, hPC, hNC, hBC, hZC⟩ := h
      obtain ⟨t0, ⟨r00, hSh⟩, ⟨r01, hTr⟩, ⟨r02, hTg⟩, ⟨r03, hWa⟩, ⟨r04, hWp⟩, ⟨r06, t921, r921a, r921b, hS0, hS1⟩, ⟨r07, t922⟩, ⟨r08, t923⟩, ⟨r010, hPa⟩, ⟨r011, hJu⟩, ⟨r012, hRe⟩, ⟨r013, hCu⟩, ⟨r014, hDe⟩, ⟨r018, t959⟩, hPf⟩ := id hL
      have t1 : mT M 1 = (6, 0) := hSh.1
      have r10 : mR M 1 0 = some 2 := hSh.2.1
      have hW2 : WoAt (mT M) (mR M) 2 := hSh.2.2.1
      have t2 : mT M 2 = (9, 0) := hW2.1
      have r20 : mR M 2 0 = some 3 := hW2.2.1
      have t3 : mT M 3 = (24, 4) := hW2.2.2.1
      have t31 : mT M 31 = (8, 0) := hTr.1
      have t924 : mT M 924 = (3, 0) := hPa.1
      have t934 : mT M 934 = (2, 0) := hJu.1
      have t938 : mT M 938 = (5, 0) := hRe.1
      have t947 : mT M 947 = (0, 0) := hCu.1
      have t952 : mT M 952 = (1, 0) := hDe.1
      refine cw_entry 0 pf_Mc_hull rfl ?_
      refine wp_iload_n rfl (ck_get kk_Mc_hull 0 rfl) ?_
      refine wp_cS1i (ck_get kk_Mc_hull 1 rfl) ml_Mc_103 (by omega) (Nat.le_of_ble_eq_true rfl) (Ci.to (c_isTenant) ?_)
      rintro _ M1 ⟨rfl, eqm1⟩
      obtain rfl := eqm1.symm
      rw [hin']
      first | refine wp_if_eqN (t := 14) (ck_get kk_Mc_hull 2 rfl) (by decide) (by omega) (fun hc4 => ?_) (fun hc4 => ?_) | refine wp_if_eq (t := 14) (ck_get kk_Mc_hull 2 rfl) (by decide) (fun hc4 => ?_) (fun hc4 => ?_)
      · refine wp_ldc2 kl_Mc_281 (ck_get kk_Mc_hull 6 rfl) ?_
        refine wp_lreturn (ck_get kk_Mc_hull 7 rfl) rfl ⟨_, rfl, ?_⟩
        exact ⟨rfl, hC', MSame.refl _⟩
      · exact absurd (by decide) hc4
    · skip
      obtain ⟨hM, hSM, hUM, hIM, hDM, hPM, hNM, hBM⟩ := id h
      have to0 := hM.1
      refine cw_entry 6 pf_Mo_hull rfl ?_
      refine wp_iload_n rfl (ck_get kk_Mo_hull 0 rfl) ?_
      refine wp_cS1i (ck_get kk_Mo_hull 1 rfl) ml_Mo_152 (by omega) (Nat.le_of_ble_eq_true rfl) (Ci.to (m_isTenant) ?_)
      rintro _ M1 ⟨rfl, eqm1⟩
      obtain rfl := eqm1.symm
      rw [hin']
      first | refine wp_if_eqN (t := 14) (ck_get kk_Mo_hull 2 rfl) (by decide) (by omega) (fun hc4 => ?_) (fun hc4 => ?_) | refine wp_if_eq (t := 14) (ck_get kk_Mo_hull 2 rfl) (by decide) (fun hc4 => ?_) (fun hc4 => ?_)
      · refine wp_ldc2 kl_Mo_413 (ck_get kk_Mo_hull 6 rfl) ?_
        refine wp_lreturn (ck_get kk_Mo_hull 7 rfl) rfl ⟨_, rfl, ?_⟩
        exact ⟨rfl, h, CSame.refl _⟩
      · exact absurd (by decide) hc4
end HUL2
