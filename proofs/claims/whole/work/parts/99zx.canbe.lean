/-! ===== canBe ===== -/
section CNB
variable {g : Gl} {M : Mem}
/-- does what was seen fit a tenant -/
def fitN (s : SH) (t : Nat) : Nat → Bool
  | 0 => true
  | k + 1 => fitN s t k && decide (msW (sWo s) t (sSe s k).1 = nI (sSe s k).2)
abbrev fitB (s : SH) (t : Nat) : Bool := fitN s t (sSn s)
/-- which tenants, as bits -/
def cbN (s : SH) : Nat → Nat
  | 0 => 0
  | t + 1 => cbN s t + (if fitB s t = true then 2 ^ t else 0)
theorem cbN_lt {s : SH} : ∀ t, cbN s t < 2 ^ t
  | 0 => Nat.zero_lt_one
  | t + 1 => by
    have := cbN_lt (s := s) t
    unfold cbN
    rw [Nat.pow_succ]
    split <;> omega
theorem or_bit : ∀ (t : Fin 4) (S : Fin 16), S.val < 2 ^ t.val → nI S.val ||| (nI 1 <<< (nI t.val &&& 31)) = nI (S.val + 2 ^ t.val) := by decide +kernel
theorem or_bit0 : ∀ (S : Fin 16), nI S.val ||| nI 0 = nI S.val := by decide +kernel
theorem pow4 {t : Nat} (h : t < 4) : 2 ^ t ≤ 8 := by
  rcases (show t = 0 ∨ t = 1 ∨ t = 2 ∨ t = 3 by omega) with rfl | rfl | rfl | rfl <;> decide
theorem fitN_f {s : SH} {t : Nat} : ∀ {k n}, k ≤ n → fitN s t k = false → fitN s t n = false
  | k, 0, h, q => by
    obtain rfl : k = 0 := by omega
    exact q
  | k, n + 1, h, q => by
    by_cases e : k = n + 1
    · subst e; exact q
    · show (fitN s t n && _) = false
      rw [fitN_f (by omega) q]; rfl
theorem l_fits {t B : Nat} {s : SH} (hA : ShAt (mT M) (mR M) 1) (hS : ShC (mT M) (mR M) (mI M) (mJ M) 1 s) (hO : SHOK s B) (ht : t < 4) : ∀ d i, i + d = sSn s → fitN s t i = true → Wp g Y_Sh_fits 1 2 [some (.ref 1), some (.ref (4 + 6 * t)), some (.int (nI i))] [] M (fun r M2 => ∃ x, r = some (.int x) ∧ x = bI (fitB s t) ∧ M2 = M) := by
  obtain ⟨t1, r10, hW2, r15, t28, r16, t29, -, -⟩ := hA
  have r15' : mR M 1 5 = some 28 := r15
  have r16' : mR M 1 6 = some 29 := r16
  have t28' : mT M 28 = (20, 6) := t28
  have t29' : mT M 29 = (20, 6) := t29
  have hW2' : WoAt (mT M) (mR M) 2 := hW2
  have tTe : mT M (4 + 6 * t) = (7, 0) := (hW2'.2.2.2 t ht).2.1
  have e7 : mI M 1 7 = nI (sSn s) := hS.2.2.2.2.2.1
  have h6 := hO.2.2.2.2.2.2.1
  intro d
  induction d with
  | zero =>
    intro i h1 hf
    obtain rfl : i = sSn s := by omega
    refine wp_iload_n rfl (ck_get kk_Sh_fits 2 rfl) ?_
    refine wp_aload_n rfl (ck_get kk_Sh_fits 3 rfl) ?_
    refine wp_getIv (v := nI (sSn s)) (ck_get kk_Sh_fits 4 rfl) fl_Sh_38 (by assumption) (e7) ?_
    first | refine wp_icmp_geN (t := 37) (ck_get kk_Sh_fits 5 rfl) (by decide) (by omega) (by omega) (fun hc7 => ?_) (fun hc7 => ?_) | refine wp_icmp_ge (t := 37) (ck_get kk_Sh_fits 5 rfl) (by decide) (fun hc7 => ?_) (fun hc7 => ?_)
    · refine wp_iconst (v := nI 1) (by decide) (ck_get kk_Sh_fits 21 rfl) ?_
      refine wp_ireturn (ck_get kk_Sh_fits 22 rfl) rfl rfl ⟨_, rfl, ?_⟩
      exact ⟨by show nI 1 = bI (fitN s t (sSn s)); rw [hf]; rfl, rfl⟩
    · omega
  | succ d ih =>
    intro i h1 hf
    obtain ⟨q1, q2⟩ := hS.2.2.2.2.2.2.1 i (by omega)
    obtain ⟨o1, o2⟩ := hO.2.2.2.2.2.2.2.1 i (by omega)
    have hn : fitN s t (i + 1) = decide (msW (sWo s) t (sSe s i).1 = nI (sSe s i).2) := by
      show (fitN s t i && _) = _
      rw [hf]; rfl
    refine wp_iload_n rfl (ck_get kk_Sh_fits 2 rfl) ?_
    refine wp_aload_n rfl (ck_get kk_Sh_fits 3 rfl) ?_
    refine wp_getIv (v := nI (sSn s)) (ck_get kk_Sh_fits 4 rfl) fl_Sh_38 (by assumption) (e7) ?_
    first | refine wp_icmp_geN (t := 37) (ck_get kk_Sh_fits 5 rfl) (by decide) (by omega) (by omega) (fun hc7 => ?_) (fun hc7 => ?_) | refine wp_icmp_ge (t := 37) (ck_get kk_Sh_fits 5 rfl) (by decide) (fun hc7 => ?_) (fun hc7 => ?_)
    · omega
    · refine wp_aload_n rfl (ck_get kk_Sh_fits 6 rfl) ?_
      refine wp_aload_n rfl (ck_get kk_Sh_fits 7 rfl) ?_
      refine wp_getR (ck_get kk_Sh_fits 8 rfl) fl_Sh_31 (by assumption) (by assumption) ?_
      refine wp_iload_n rfl (ck_get kk_Sh_fits 9 rfl) ?_
      refine wp_ialdv (v := nI (sSe s i).1) (ck_get kk_Sh_fits 10 rfl) (by assumption) (ixk_nI (k := i) (by omega) (by omega)) (q1) ?_
      refine wp_cV1i (ck_get kk_Sh_fits 11 rfl) ml_Sh_69 (by omega) (Nat.le_of_ble_eq_true rfl) (by assumption) (Ci.to (c_missW (a := 2) (by exact hW2') (by exact hS.1) ht (by omega)) ?_)
      rintro _ M1 ⟨rfl, eqm1⟩
      obtain rfl := eqm1.symm
      refine wp_aload_n rfl (ck_get kk_Sh_fits 12 rfl) ?_
      refine wp_getR (ck_get kk_Sh_fits 13 rfl) fl_Sh_35 (by assumption) (by assumption) ?_
      refine wp_iload_n rfl (ck_get kk_Sh_fits 14 rfl) ?_
      refine wp_ialdv (v := nI (sSe s i).2) (ck_get kk_Sh_fits 15 rfl) (by assumption) (ixk_nI (k := i) (by omega) (by omega)) (q2) ?_
      refine wp_icmp_eq (t := 31) (ck_get kk_Sh_fits 16 rfl) (by decide) (fun hc26 => ?_) (fun hc26 => ?_)
      · first | refine wp_iincN (ck_get kk_Sh_fits 19 rfl) rfl (by decide) rfl ?_ | refine wp_iinc (ck_get kk_Sh_fits 19 rfl) rfl (by decide) rfl ?_
        refine wp_goto (t := 2) (ck_get kk_Sh_fits 20 rfl) (by decide) ?_
        exact ih (i + 1) (by omega) (by rw [hn]; exact decide_eq_true hc26)
      · refine wp_iconst (v := nI 0) (by decide) (ck_get kk_Sh_fits 17 rfl) ?_
        refine wp_ireturn (ck_get kk_Sh_fits 18 rfl) rfl rfl ⟨_, rfl, ?_⟩
        refine ⟨?_, rfl⟩
        have : fitN s t (sSn s) = false := fitN_f (k := i + 1) (by omega) (by rw [hn]; exact decide_eq_false hc26)
        show nI 0 = bI (fitN s t (sSn s))
        rw [this]; rfl
theorem c_fits {t B : Nat} {s : SH} (hA : ShAt (mT M) (mR M) 1) (hS : ShC (mT M) (mR M) (mI M) (mJ M) 1 s) (hO : SHOK s B) (ht : t < 4) : Ci g Y_Sh_fits 1 [.ref 1, .ref (4 + 6 * t)] M (fun x M2 => x = bI (fitB s t) ∧ M2 = M) := by
  refine cw_entry 1 pf_Sh_fits rfl ?_
  refine wp_iconst (v := nI 0) (by decide) (ck_get kk_Sh_fits 0 rfl) ?_
  refine wp_istore_n (ck_get kk_Sh_fits 1 rfl) (by decide) rfl ?_
  exact l_fits hA hS hO ht (sSn s) 0 (by omega) rfl
theorem c_canBe {c : Nat} {z : ST} (h : CR c z M) (hO : ZOK c z) : Ci g Y_Mc_canBe 2 [.ref 0] M (fun x M2 => x = nI (cbN (zS z) 4) ∧ M2 = M) := by
  have hC' := h.le (Nat.le_succ c)
  obtain ⟨pf, pg, hL, hSC, hTC, hIC, hDC, hPC, hNC, hBC, hZC⟩ := h
  obtain ⟨t0, ⟨r00, hSh⟩, ⟨r01, hTr⟩, ⟨r02, hTg⟩, ⟨r03, hWa⟩, ⟨r04, hWp⟩, ⟨r06, t921, r921a, r921b, hS0, hS1⟩, ⟨r07, t922⟩, ⟨r08, t923⟩, ⟨r010, hPa⟩, ⟨r011, hJu⟩, ⟨r012, hRe⟩, ⟨r013, hCu⟩, ⟨r014, hDe⟩, ⟨r018, t959⟩, hPf⟩ := id hL
  have t1 : mT M 1 = (6, 0) := hSh.1
  have r10 : mR M 1 0 = some 2 := hSh.2.1
  have hW2 : WoAt (mT M) (mR M) 2 := hSh.2.2.1
  have t2 : mT M 2 = (9, 0) := hW2.1
  have r20 : mR M 2 0 = some 3 := hW2.2.1
  have t3 : mT M 3 = (24, 4) := hW2.2.2.1
  have t31 : mT M 31 = (8, 0) := hTr.1
  have t924 : mT M 924 = (3, 0) := hPa.1
  have t934 : mT M 934 = (2, 0) := hJu.1
  have t938 : mT M 938 = (5, 0) := hRe.1
  have t947 : mT M 947 = (0, 0) := hCu.1
  have t952 : mT M 952 = (1, 0) := hDe.1
  have hlp : ∀ d t, t + d = 4 → Wp g Y_Mc_canBe 2 4 [some (.ref 0), some (.int (nI (cbN (zS z) t))), some (.int (nI t))] [] M (fun r M2 => ∃ x, r = some (.int x) ∧ x = nI (cbN (zS z) 4) ∧ M2 = M) := by
    intro d
    induction d with
    | zero =>
      intro t h1
      obtain rfl : t = 4 := by omega
      refine wp_iload_n rfl (ck_get kk_Mc_canBe 4 rfl) ?_
      refine wp_iconst (v := nI 4) (by decide) (ck_get kk_Mc_canBe 5 rfl) ?_
      first | refine wp_icmp_geN (t := 43) (ck_get kk_Mc_canBe 6 rfl) (by decide) (by omega) (by omega) (fun hc6 => ?_) (fun hc6 => ?_) | refine wp_icmp_ge (t := 43) (ck_get kk_Mc_canBe 6 rfl) (by decide) (fun hc6 => ?_) (fun hc6 => ?_)
      · refine wp_iload_n rfl (ck_get kk_Mc_canBe 25 rfl) ?_
        refine wp_ireturn (ck_get kk_Mc_canBe 26 rfl) rfl rfl ⟨_, rfl, ?_⟩
        exact ⟨rfl, rfl⟩
      · omega
    | succ d ih =>
      intro t h1
      have ht : t < 4 := by omega
      have hlt := cbN_lt (s := zS z) t
      have hp4 := pow4 ht
      have rTe : mR M 3 t = some (4 + 6 * t) := (hW2.2.2.2 t ht).1
      have hTA : TeAt (mT M) (mR M) (4 + 6 * t) := (hW2.2.2.2 t ht).2
      have hTH : TeHas (mI M) (mJ M) (4 + 6 * t) ((sWo (zS z)).2 t) := hSC.1.2 t ht
      have tTe := hTA.1
      refine wp_iload_n rfl (ck_get kk_Mc_canBe 4 rfl) ?_
      refine wp_iconst (v := nI 4) (by decide) (ck_get kk_Mc_canBe 5 rfl) ?_
      first | refine wp_icmp_geN (t := 43) (ck_get kk_Mc_canBe 6 rfl) (by decide) (by omega) (by omega) (fun hc6 => ?_) (fun hc6 => ?_) | refine wp_icmp_ge (t := 43) (ck_get kk_Mc_canBe 6 rfl) (by decide) (fun hc6 => ?_) (fun hc6 => ?_)
      · omega
      · refine wp_aload_n rfl (ck_get kk_Mc_canBe 7 rfl) ?_
        refine wp_getR (ck_get kk_Mc_canBe 8 rfl) fl_Mc_12 (by assumption) (by assumption) ?_
        refine wp_aload_n rfl (ck_get kk_Mc_canBe 9 rfl) ?_
        refine wp_getR (ck_get kk_Mc_canBe 10 rfl) fl_Mc_12 (by assumption) (by assumption) ?_
        refine wp_getR (ck_get kk_Mc_canBe 11 rfl) fl_Mc_107 (by assumption) (by assumption) ?_
        refine wp_getR (ck_get kk_Mc_canBe 12 rfl) fl_Mc_110 (by assumption) (by assumption) ?_
        refine wp_iload_n rfl (ck_get kk_Mc_canBe 13 rfl) ?_
        refine wp_aald (ck_get kk_Mc_canBe 14 rfl) (by assumption) (by first | assumption | exact ixk_nI (by omega) (by omega)) (by assumption) ?_
        refine wp_cV1i (ck_get kk_Mc_canBe 15 rfl) ml_Mc_351 (by omega) (Nat.le_of_ble_eq_true rfl) (by assumption) (Ci.to (c_fits (B := bC c) (by exact hSh) (by exact hSC) hO.1 ht) ?_)
        rintro _ M1 ⟨rfl, eqm1⟩
        obtain rfl := eqm1.symm
        cases hf : fitB (zS z) t with
        | true =>
          have es : cbN (zS z) (t + 1) = cbN (zS z) t + 2 ^ t := by
            show cbN (zS z) t + (if fitB (zS z) t = true then 2 ^ t else 0) = _
            rw [if_pos hf]
          first | refine wp_if_eqN (t := 37) (ck_get kk_Mc_canBe 16 rfl) (by decide) (by omega) (fun hc28 => ?_) (fun hc28 => ?_) | refine wp_if_eq (t := 37) (ck_get kk_Mc_canBe 16 rfl) (by decide) (fun hc28 => ?_) (fun hc28 => ?_)
          · exact absurd hc28 (by decide)
          · refine wp_iload_n rfl (ck_get kk_Mc_canBe 17 rfl) ?_
            refine wp_iconst (v := nI 1) (by decide) (ck_get kk_Mc_canBe 18 rfl) ?_
            refine wp_iload_n rfl (ck_get kk_Mc_canBe 19 rfl) ?_
            refine wp_ishl (ck_get kk_Mc_canBe 20 rfl) ?_
            refine wp_ior (ck_get kk_Mc_canBe 21 rfl) ?_
            refine wp_istore_n (ck_get kk_Mc_canBe 22 rfl) (by decide) rfl ?_
            first | refine wp_iincN (ck_get kk_Mc_canBe 23 rfl) rfl (by decide) rfl ?_ | refine wp_iinc (ck_get kk_Mc_canBe 23 rfl) rfl (by decide) rfl ?_
            refine wp_goto (t := 4) (ck_get kk_Mc_canBe 24 rfl) (by decide) ?_
            have e := ih (t + 1) (by omega)
            rw [es, ← or_bit ⟨t, ht⟩ ⟨cbN (zS z) t, by omega⟩ hlt] at e
            exact e
        | false =>
          have es : cbN (zS z) (t + 1) = cbN (zS z) t := by
            show cbN (zS z) t + (if fitB (zS z) t = true then 2 ^ t else 0) = _
            rw [hf, if_neg (by decide)]; rfl
          first | refine wp_if_eqN (t := 37) (ck_get kk_Mc_canBe 16 rfl) (by decide) (by omega) (fun hc28 => ?_) (fun hc28 => ?_) | refine wp_if_eq (t := 37) (ck_get kk_Mc_canBe 16 rfl) (by decide) (fun hc28 => ?_) (fun hc28 => ?_)
          · first | refine wp_iincN (ck_get kk_Mc_canBe 23 rfl) rfl (by decide) rfl ?_ | refine wp_iinc (ck_get kk_Mc_canBe 23 rfl) rfl (by decide) rfl ?_
            refine wp_goto (t := 4) (ck_get kk_Mc_canBe 24 rfl) (by decide) ?_
            have e := ih (t + 1) (by omega)
            rw [es] at e
            exact e
          · exact absurd (by decide) hc28
  refine cw_entry 2 pf_Mc_canBe rfl ?_
  refine wp_iconst (v := nI 0) (by decide) (ck_get kk_Mc_canBe 0 rfl) ?_
  refine wp_istore_n (ck_get kk_Mc_canBe 1 rfl) (by decide) rfl ?_
  refine wp_iconst (v := nI 0) (by decide) (ck_get kk_Mc_canBe 2 rfl) ?_
  refine wp_istore_n (ck_get kk_Mc_canBe 3 rfl) (by decide) rfl ?_
  exact hlp 4 0 (by omega)
/-- the model's row of misses has these tenants' -/
def MsL (f : Nat → Int32) (w : WS) (t : Nat) : Prop := ∀ u c, u < t → c < 25 → f (25 * u + c) = msW w u c
theorem MsL.lay {f K : Nat → Int32} {P : Nat → Int64} {w : WS} {t : Nat} (h : MsL f w t) (hW : MwHas K P 0 0 w) (ht : t < 4) : MsL (lmF f K t 0) w (t + 1) := fun u c hu hc => by
  by_cases e : u = t
  · subst e; exact lm_at hW ht hc
  · have : lmF f K t 0 (25 * u + c) = f (25 * u + c) := by
      unfold lmF
      rw [if_neg (by omega)]
    rw [this]; exact h u c (by omega) hc
/-- the model's memory with another row of misses -/
abbrev mfM (M : Mem) (f : Nat → Int32) : Mem := mk2 M (up1 (mI M) 1040 f) (mJ M)
theorem mf_lm {f : Nat → Int32} {t : Nat} : lmM (mfM M f) 1020 t 0 = mfM M (lmF f (mI M 1022) t 0) := by
  refine mk2_ext (M := M) ?_ rfl
  show up1 (up1 (mI M) 1040 f) (1020 + 20) (lmF (up1 (mI M) 1040 f (1020 + 20)) (up1 (mI M) 1040 f (1020 + 2)) t 0) = _
  rw [show 1020 + 20 = 1040 from rfl, up1_up1, up1_eq, up1_ne (show 1020 + 2 ≠ 1040 by omega)]
theorem mf_x {f : Nat → Int32} {x : Nat} (h : x ≠ 1040) : mI (mfM M f) x = mI M x := up1_ne h
theorem mf_40 {f : Nat → Int32} : mI (mfM M f) 1040 = f := by
  show up1 (mI M) 1040 f 1040 = f
  rw [up1_eq]
theorem mf_id : mfM M (mI M 1040) = M := by
  show mk2 M (up1 (mI M) 1040 (mI M 1040)) (mJ M) = M
  rw [show up1 (mI M) 1040 (mI M 1040) = mI M from up1_id rfl]
theorem MR.mf {z : ST} {f : Nat → Int32} (h : MR z M) : MR z (mfM M f) := h.sc (fun x q => up1_ne (by unfold moK at q; omega)) (fun x _ => rfl) (fun k _ => by rw [up1_ne (by omega)]) (by rw [up1_ne (by omega)]; exact h.2.2.2.2.2.2.1.2.2.2.2.1)
theorem CSame.mf {f : Nat → Int32} : CSame M (mfM M f) := CSame.mk2 (fun x q => ⟨up1_ne (by omega), rfl⟩)
theorem m_isSo {t B : Nat} {s : SH} {P : Nat → Int64} {f : Nat → Int32} (hM : MoAt (mT M) (mR M) 1020) (hS : ShM (mI M 1022) P s) (hO : SHOK s B) (ht : t < 4) (hf : MsL f (sWo s) (t + 1)) : Ci g Y_Mo_isSo 1 [.ref 1020, .int (nI t)] (mfM M f) (fun x M2 => x = bI (fitB s t) ∧ M2 = mfM M f) := by
  have to0 := hM.1
  have rfkept := MoAt.r hM 1 rfl
  have tfkept := MoAt.t hM 1 rfl
  have e385 : mI (mfM M f) (1020 + 2) 385 = nI (sSn s) := (congrFun (mf_x (by omega)) 385).trans hS.2.2.2.2.2.2.1
  have h6 := hO.2.2.2.2.2.2.1
  have hlp : ∀ d i, i + d = sSn s → Wp g Y_Mo_isSo 1 4 [some (.ref 1020), some (.int (nI t)), some (.int (bI (fitN s t i))), some (.int (nI i))] [] (mfM M f) (fun r M2 => ∃ x, r = some (.int x) ∧ x = bI (fitB s t) ∧ M2 = mfM M f) := by
    intro d
    induction d with
    | zero =>
      intro i h1
      obtain rfl : i = sSn s := by omega
      refine wp_iload_n rfl (ck_get kk_Mo_isSo 4 rfl) ?_
      refine wp_aload_n rfl (ck_get kk_Mo_isSo 5 rfl) ?_
      refine wp_getR (ck_get kk_Mo_isSo 6 rfl) fl_Mo_28 (by assumption) (by assumption) ?_
      refine wp_sipush (v := nI 385) (by decide) (ck_get kk_Mo_isSo 7 rfl) ?_
      refine wp_ialdv (v := nI (sSn s)) (ck_get kk_Mo_isSo 8 rfl) (by assumption) (ixk_nI (k := 385) (by omega) (by omega)) (e385) ?_
      first | refine wp_icmp_geN (t := 66) (ck_get kk_Mo_isSo 9 rfl) (by decide) (by omega) (by omega) (fun hc13 => ?_) (fun hc13 => ?_) | refine wp_icmp_ge (t := 66) (ck_get kk_Mo_isSo 9 rfl) (by decide) (fun hc13 => ?_) (fun hc13 => ?_)
      · refine wp_iload_n rfl (ck_get kk_Mo_isSo 40 rfl) ?_
        refine wp_ireturn (ck_get kk_Mo_isSo 41 rfl) rfl (bI_ok _) ⟨_, rfl, ?_⟩
        exact ⟨rfl, rfl⟩
      · omega
    | succ d ih =>
      intro i h1
      obtain ⟨q1, q2⟩ := hS.2.2.1 i (by omega)
      obtain ⟨o1, o2⟩ := hO.2.2.2.2.2.2.2.1 i (by omega)
      have e1 : mI (mfM M f) (1020 + 2) (370 + 2 * i) = nI (sSe s i).1 := (congrFun (mf_x (by omega)) _).trans q1
      have e2 : mI (mfM M f) (1020 + 2) (370 + 2 * i + 1) = nI (sSe s i).2 := by
        refine (congrFun (mf_x (by omega)) _).trans ?_
        rw [show 370 + 2 * i + 1 = 371 + 2 * i by omega]; exact q2
      cases hb : fitN s t i with
      | true =>
        have hn : fitN s t (i + 1) = decide (msW (sWo s) t (sSe s i).1 = nI (sSe s i).2) := by
          show (fitN s t i && _) = _
          rw [hb]; rfl
        refine wp_iload_n rfl (ck_get kk_Mo_isSo 4 rfl) ?_
        refine wp_aload_n rfl (ck_get kk_Mo_isSo 5 rfl) ?_
        refine wp_getR (ck_get kk_Mo_isSo 6 rfl) fl_Mo_28 (by assumption) (by assumption) ?_
        refine wp_sipush (v := nI 385) (by decide) (ck_get kk_Mo_isSo 7 rfl) ?_
        refine wp_ialdv (v := nI (sSn s)) (ck_get kk_Mo_isSo 8 rfl) (by assumption) (ixk_nI (k := 385) (by omega) (by omega)) (e385) ?_
        first | refine wp_icmp_geN (t := 66) (ck_get kk_Mo_isSo 9 rfl) (by decide) (by omega) (by omega) (fun hc13 => ?_) (fun hc13 => ?_) | refine wp_icmp_ge (t := 66) (ck_get kk_Mo_isSo 9 rfl) (by decide) (fun hc13 => ?_) (fun hc13 => ?_)
        · omega
        · refine wp_iload_n rfl (ck_get kk_Mo_isSo 10 rfl) ?_
          first | refine wp_if_eqN (t := 58) (ck_get kk_Mo_isSo 11 rfl) (by decide) (by omega) (fun hc17 => ?_) (fun hc17 => ?_) | refine wp_if_eq (t := 58) (ck_get kk_Mo_isSo 11 rfl) (by decide) (fun hc17 => ?_) (fun hc17 => ?_)
          · exact absurd hc17 (by decide)
          · refine wp_aload_n rfl (ck_get kk_Mo_isSo 12 rfl) ?_
            refine wp_iload_n rfl (ck_get kk_Mo_isSo 13 rfl) ?_
            refine wp_aload_n rfl (ck_get kk_Mo_isSo 14 rfl) ?_
            refine wp_getR (ck_get kk_Mo_isSo 15 rfl) fl_Mo_28 (by assumption) (by assumption) ?_
            refine wp_sipush (v := nI 370) (by decide) (ck_get kk_Mo_isSo 16 rfl) ?_
            refine wp_iconst (v := nI 2) (by decide) (ck_get kk_Mo_isSo 17 rfl) ?_
            refine wp_iload_n rfl (ck_get kk_Mo_isSo 18 rfl) ?_
            first | refine wp_imulN (ck_get kk_Mo_isSo 19 rfl) ?_ | refine wp_imul (ck_get kk_Mo_isSo 19 rfl) ?_
            first | refine wp_iaddN (ck_get kk_Mo_isSo 20 rfl) ?_ | refine wp_iadd (ck_get kk_Mo_isSo 20 rfl) ?_
            refine wp_ialdv (v := nI (sSe s i).1) (ck_get kk_Mo_isSo 21 rfl) (by assumption) (ixk_nI (k := 370 + 2 * i) (by omega) (by omega)) (e1) ?_
            refine wp_cV2i (ck_get kk_Mo_isSo 22 rfl) ml_Mo_410 (by omega) (Nat.le_of_ble_eq_true rfl) (by assumption) (Ci.to (m_missAt (t := t) (c := (sSe s i).1) (by exact hM) ht (by omega)) ?_)
            rintro x M1 ⟨w1, w2⟩
            subst w2
            rw [mf_40, hf t _ (by omega) (by omega)] at w1
            subst w1
            refine wp_aload_n rfl (ck_get kk_Mo_isSo 23 rfl) ?_
            refine wp_getR (ck_get kk_Mo_isSo 24 rfl) fl_Mo_28 (by assumption) (by assumption) ?_
            refine wp_sipush (v := nI 370) (by decide) (ck_get kk_Mo_isSo 25 rfl) ?_
            refine wp_iconst (v := nI 2) (by decide) (ck_get kk_Mo_isSo 26 rfl) ?_
            refine wp_iload_n rfl (ck_get kk_Mo_isSo 27 rfl) ?_
            first | refine wp_imulN (ck_get kk_Mo_isSo 28 rfl) ?_ | refine wp_imul (ck_get kk_Mo_isSo 28 rfl) ?_
            first | refine wp_iaddN (ck_get kk_Mo_isSo 29 rfl) ?_ | refine wp_iadd (ck_get kk_Mo_isSo 29 rfl) ?_
            refine wp_iconst (v := nI 1) (by decide) (ck_get kk_Mo_isSo 30 rfl) ?_
            first | refine wp_iaddN (ck_get kk_Mo_isSo 31 rfl) ?_ | refine wp_iadd (ck_get kk_Mo_isSo 31 rfl) ?_
            refine wp_ialdv (v := nI (sSe s i).2) (ck_get kk_Mo_isSo 32 rfl) (by assumption) (ixk_nI (k := 370 + 2 * i + 1) (by omega) (by omega)) (e2) ?_
            refine wp_icmp_ne (t := 58) (ck_get kk_Mo_isSo 33 rfl) (by decide) (fun hc51 => ?_) (fun hc51 => ?_)
            · refine wp_iconst (v := nI 0) (by decide) (ck_get kk_Mo_isSo 36 rfl) ?_
              refine wp_istore_n (ck_get kk_Mo_isSo 37 rfl) (by decide) rfl ?_
              first | refine wp_iincN (ck_get kk_Mo_isSo 38 rfl) rfl (by decide) rfl ?_ | refine wp_iinc (ck_get kk_Mo_isSo 38 rfl) rfl (by decide) rfl ?_
              refine wp_goto (t := 4) (ck_get kk_Mo_isSo 39 rfl) (by decide) ?_
              have e := ih (i + 1) (by omega)
              rw [hn, decide_eq_false hc51] at e
              exact e
            · refine wp_iconst (v := nI 1) (by decide) (ck_get kk_Mo_isSo 34 rfl) ?_
              refine wp_goto (t := 59) (ck_get kk_Mo_isSo 35 rfl) (by decide) ?_
              refine wp_istore_n (ck_get kk_Mo_isSo 37 rfl) (by decide) rfl ?_
              first | refine wp_iincN (ck_get kk_Mo_isSo 38 rfl) rfl (by decide) rfl ?_ | refine wp_iinc (ck_get kk_Mo_isSo 38 rfl) rfl (by decide) rfl ?_
              refine wp_goto (t := 4) (ck_get kk_Mo_isSo 39 rfl) (by decide) ?_
              have e := ih (i + 1) (by omega)
              rw [hn, decide_eq_true hc51] at e
              exact e
      | false =>
        have hn : fitN s t (i + 1) = false := by
          show (fitN s t i && _) = _
          rw [hb]; rfl
        refine wp_iload_n rfl (ck_get kk_Mo_isSo 4 rfl) ?_
        refine wp_aload_n rfl (ck_get kk_Mo_isSo 5 rfl) ?_
        refine wp_getR (ck_get kk_Mo_isSo 6 rfl) fl_Mo_28 (by assumption) (by assumption) ?_
        refine wp_sipush (v := nI 385) (by decide) (ck_get kk_Mo_isSo 7 rfl) ?_
        refine wp_ialdv (v := nI (sSn s)) (ck_get kk_Mo_isSo 8 rfl) (by assumption) (ixk_nI (k := 385) (by omega) (by omega)) (e385) ?_
        first | refine wp_icmp_geN (t := 66) (ck_get kk_Mo_isSo 9 rfl) (by decide) (by omega) (by omega) (fun hc13 => ?_) (fun hc13 => ?_) | refine wp_icmp_ge (t := 66) (ck_get kk_Mo_isSo 9 rfl) (by decide) (fun hc13 => ?_) (fun hc13 => ?_)
        · omega
        · refine wp_iload_n rfl (ck_get kk_Mo_isSo 10 rfl) ?_
          first | refine wp_if_eqN (t := 58) (ck_get kk_Mo_isSo 11 rfl) (by decide) (by omega) (fun hc17 => ?_) (fun hc17 => ?_) | refine wp_if_eq (t := 58) (ck_get kk_Mo_isSo 11 rfl) (by decide) (fun hc17 => ?_) (fun hc17 => ?_)
          · refine wp_iconst (v := nI 0) (by decide) (ck_get kk_Mo_isSo 36 rfl) ?_
            refine wp_istore_n (ck_get kk_Mo_isSo 37 rfl) (by decide) rfl ?_
            first | refine wp_iincN (ck_get kk_Mo_isSo 38 rfl) rfl (by decide) rfl ?_ | refine wp_iinc (ck_get kk_Mo_isSo 38 rfl) rfl (by decide) rfl ?_
            refine wp_goto (t := 4) (ck_get kk_Mo_isSo 39 rfl) (by decide) ?_
            have e := ih (i + 1) (by omega)
            rw [hn] at e
            exact e
          · exact absurd (by decide) hc17
  refine cw_entry 2 pf_Mo_isSo rfl ?_
  refine wp_iconst (v := nI 1) (by decide) (ck_get kk_Mo_isSo 0 rfl) ?_
  refine wp_istore_n (ck_get kk_Mo_isSo 1 rfl) (by decide) rfl ?_
  refine wp_iconst (v := nI 0) (by decide) (ck_get kk_Mo_isSo 2 rfl) ?_
  refine wp_istore_n (ck_get kk_Mo_isSo 3 rfl) (by decide) rfl ?_
  exact hlp (sSn s) 0 (by omega)
theorem m_canBe {c : Nat} {z : ST} (h : MR z M) (hO : ZOK c z) : Ci g Y_Mo_canBe 2 [.ref 1020] M (fun x M2 => x = nI (cbN (zS z) 4) ∧ ∃ f, M2 = mfM M f ∧ MsL f (sWo (zS z)) 4) := by
  obtain ⟨hM, hSM, hUM, hIM, hDM, hPM, hNM, hBM⟩ := id h
  have to0 := hM.1
  have hlp : ∀ d t f, t + d = 4 → MsL f (sWo (zS z)) t → Wp g Y_Mo_canBe 2 4 [some (.ref 1020), some (.int (nI (cbN (zS z) t))), some (.int (nI t))] [] (mfM M f) (fun r M2 => ∃ x, r = some (.int x) ∧ x = nI (cbN (zS z) 4) ∧ ∃ f, M2 = mfM M f ∧ MsL f (sWo (zS z)) 4) := by
    intro d
    induction d with
    | zero =>
      intro t f h1 hf
      obtain rfl : t = 4 := by omega
      refine wp_iload_n rfl (ck_get kk_Mo_canBe 4 rfl) ?_
      refine wp_iconst (v := nI 4) (by decide) (ck_get kk_Mo_canBe 5 rfl) ?_
      first | refine wp_icmp_geN (t := 38) (ck_get kk_Mo_canBe 6 rfl) (by decide) (by omega) (by omega) (fun hc6 => ?_) (fun hc6 => ?_) | refine wp_icmp_ge (t := 38) (ck_get kk_Mo_canBe 6 rfl) (by decide) (fun hc6 => ?_) (fun hc6 => ?_)
      · refine wp_iload_n rfl (ck_get kk_Mo_canBe 24 rfl) ?_
        refine wp_ireturn (ck_get kk_Mo_canBe 25 rfl) rfl rfl ⟨_, rfl, ?_⟩
        exact ⟨rfl, f, rfl, hf⟩
      · omega
    | succ d ih =>
      intro t f h1 hf
      have ht : t < 4 := by omega
      have hlt := cbN_lt (s := zS z) t
      have hp4 := pow4 ht
      have hf2 := hf.lay hSM.1 ht
      refine wp_iload_n rfl (ck_get kk_Mo_canBe 4 rfl) ?_
      refine wp_iconst (v := nI 4) (by decide) (ck_get kk_Mo_canBe 5 rfl) ?_
      first | refine wp_icmp_geN (t := 38) (ck_get kk_Mo_canBe 6 rfl) (by decide) (by omega) (by omega) (fun hc6 => ?_) (fun hc6 => ?_) | refine wp_icmp_ge (t := 38) (ck_get kk_Mo_canBe 6 rfl) (by decide) (fun hc6 => ?_) (fun hc6 => ?_)
      · omega
      · refine wp_aload_n rfl (ck_get kk_Mo_canBe 7 rfl) ?_
        refine wp_iload_n rfl (ck_get kk_Mo_canBe 8 rfl) ?_
        refine wp_cV1v (ck_get kk_Mo_canBe 9 rfl) ml_Mo_407 (by omega) (Nat.le_of_ble_eq_true rfl) (by assumption) (Cv.to (m_laysMisses (t := t) (by exact hM) ht) ?_)
        rintro M1 e1
        rw [mf_lm] at e1
        subst e1
        refine wp_iload_n rfl (ck_get kk_Mo_canBe 10 rfl) ?_
        refine wp_aload_n rfl (ck_get kk_Mo_canBe 11 rfl) ?_
        refine wp_iload_n rfl (ck_get kk_Mo_canBe 12 rfl) ?_
        refine wp_cV1i (ck_get kk_Mo_canBe 13 rfl) ml_Mo_495 (by omega) (Nat.le_of_ble_eq_true rfl) (by assumption) (Ci.to (m_isSo (B := bC c) hM hSM hO.1 ht hf2) ?_)
        rintro _ M1 ⟨rfl, eqm1⟩
        obtain rfl := eqm1.symm
        cases hfb : fitB (zS z) t with
        | true =>
          have es : cbN (zS z) (t + 1) = cbN (zS z) t + 2 ^ t := by
            show cbN (zS z) t + (if fitB (zS z) t = true then 2 ^ t else 0) = _
            rw [if_pos hfb]
          first | refine wp_if_eqN (t := 29) (ck_get kk_Mo_canBe 14 rfl) (by decide) (by omega) (fun hc20 => ?_) (fun hc20 => ?_) | refine wp_if_eq (t := 29) (ck_get kk_Mo_canBe 14 rfl) (by decide) (fun hc20 => ?_) (fun hc20 => ?_)
          · exact absurd hc20 (by decide)
          · refine wp_iconst (v := nI 1) (by decide) (ck_get kk_Mo_canBe 15 rfl) ?_
            refine wp_iload_n rfl (ck_get kk_Mo_canBe 16 rfl) ?_
            refine wp_ishl (ck_get kk_Mo_canBe 17 rfl) ?_
            refine wp_goto (t := 30) (ck_get kk_Mo_canBe 18 rfl) (by decide) ?_
            refine wp_ior (ck_get kk_Mo_canBe 20 rfl) ?_
            refine wp_istore_n (ck_get kk_Mo_canBe 21 rfl) (by decide) rfl ?_
            first | refine wp_iincN (ck_get kk_Mo_canBe 22 rfl) rfl (by decide) rfl ?_ | refine wp_iinc (ck_get kk_Mo_canBe 22 rfl) rfl (by decide) rfl ?_
            refine wp_goto (t := 4) (ck_get kk_Mo_canBe 23 rfl) (by decide) ?_
            have e := ih (t + 1) _ (by omega) hf2
            rw [es, ← or_bit ⟨t, ht⟩ ⟨cbN (zS z) t, by omega⟩ hlt] at e
            exact e
        | false =>
          have es : cbN (zS z) (t + 1) = cbN (zS z) t := by
            show cbN (zS z) t + (if fitB (zS z) t = true then 2 ^ t else 0) = _
            rw [hfb, if_neg (by decide)]; rfl
          first | refine wp_if_eqN (t := 29) (ck_get kk_Mo_canBe 14 rfl) (by decide) (by omega) (fun hc20 => ?_) (fun hc20 => ?_) | refine wp_if_eq (t := 29) (ck_get kk_Mo_canBe 14 rfl) (by decide) (fun hc20 => ?_) (fun hc20 => ?_)
          · refine wp_iconst (v := nI 0) (by decide) (ck_get kk_Mo_canBe 19 rfl) ?_
            refine wp_ior (ck_get kk_Mo_canBe 20 rfl) ?_
            refine wp_istore_n (ck_get kk_Mo_canBe 21 rfl) (by decide) rfl ?_
            first | refine wp_iincN (ck_get kk_Mo_canBe 22 rfl) rfl (by decide) rfl ?_ | refine wp_iinc (ck_get kk_Mo_canBe 22 rfl) rfl (by decide) rfl ?_
            refine wp_goto (t := 4) (ck_get kk_Mo_canBe 23 rfl) (by decide) ?_
            have e := ih (t + 1) _ (by omega) hf2
            rw [es, ← or_bit0 ⟨cbN (zS z) t, by omega⟩] at e
            exact e
          · exact absurd (by decide) hc20
  refine cw_entry 2 pf_Mo_canBe rfl ?_
  refine wp_iconst (v := nI 0) (by decide) (ck_get kk_Mo_canBe 0 rfl) ?_
  refine wp_istore_n (ck_get kk_Mo_canBe 1 rfl) (by decide) rfl ?_
  refine wp_iconst (v := nI 0) (by decide) (ck_get kk_Mo_canBe 2 rfl) ?_
  refine wp_istore_n (ck_get kk_Mo_canBe 3 rfl) (by decide) rfl ?_
  have e := hlp 4 0 (mI M 1040) (by omega) (fun u c hu _ => absurd hu (Nat.not_lt_zero u))
  rw [mf_id] at e
  exact e
theorem b_canBe : Both g Y_Mc_canBe Y_Mo_canBe [] := by
  intro c z hc hO
  refine ⟨nI (cbN (zS z) 4), z, hO.le (by omega), fun M h => ?_, fun M h => ?_⟩
  · refine Ci.to (Cw.le (n2 := 300) (by omega) (c_canBe h hO)) ?_
    rintro x M2 ⟨e1, rfl⟩
    exact ⟨e1, h.le (Nat.le_succ c), MSame.refl _⟩
  · refine Ci.to (Cw.le (n2 := 300) (by omega) (m_canBe h hO)) ?_
    rintro x M2 ⟨e1, f, rfl, -⟩
    exact ⟨e1, h.mf, CSame.mf⟩
end CNB
