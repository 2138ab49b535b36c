/-! ===== ask ===== -/
section ASB
variable {g : Gl} {M : Mem}
/-- which have alike misses at a size -/
abbrev eqW (w : WS) (c : Nat) : Nat → Nat → Bool := fun i j => decide (msW w i c = msW w j c)
theorem l_wmA1 {S c t : Nat} {w : WS} {x3 : Int32} (hW : WoAt (mT M) (mR M) 2) (hH : WoHas (mI M) (mJ M) 2 w) (hS : S < 16) (hc : c < 25) (ht : t < 4) {Q : Option Value → Mem → Prop} :
    ∀ d j n, j + d = 4 → n ≤ j → (∀ y, y = ac1 (eqW w c) S t d j n → y ≤ 4 → Wp g Y_Wo_mostAlike 1 86 [some (.ref 2), some (.int (nI S)), some (.int (nI c)), some (.int x3), some (.int (nI t)), some (.int (msW w t c)), some (.int (nI y)), some (.int (nI 4))] [] M Q) → Wp g Y_Wo_mostAlike 1 45 [some (.ref 2), some (.int (nI S)), some (.int (nI c)), some (.int x3), some (.int (nI t)), some (.int (msW w t c)), some (.int (nI n)), some (.int (nI j))] [] M Q := by
  have t2 := hW.1
  have r20 : mR M 2 0 = some 3 := hW.2.1
  have t3 : mT M 3 = (24, 4) := hW.2.2.1
  intro d
  induction d with
  | zero =>
    intro j n h1 hn K
    obtain rfl : j = 4 := by omega
    refine wp_iload rfl (ck_get kk_Wo_mostAlike 27 rfl) ?_
    refine wp_iconst (v := nI 4) (by decide) (ck_get kk_Wo_mostAlike 28 rfl) ?_
    first | refine wp_icmp_geN (t := 86) (ck_get kk_Wo_mostAlike 29 rfl) (by decide) (by omega) (by omega) (fun hc48 => ?_) (fun hc48 => ?_) | refine wp_icmp_ge (t := 86) (ck_get kk_Wo_mostAlike 29 rfl) (by decide) (fun hc48 => ?_) (fun hc48 => ?_)
    · exact K n rfl hn
    · omega
  | succ d ih =>
    intro j n h1 hn K
    have hj : j < 4 := by omega
    have hb := bt2_lt S j
    have hsb : ((nI S).toUInt32 >>> ((nI j).toUInt32 &&& Int32.toUInt32 31)).toInt32 &&& nI 1 = nI (bt2 S j) := sh_bt ⟨S, hS⟩ ⟨j, hj⟩
    have rTe : mR M 3 j = some (4 + 6 * j) := (hW.2.2.2 j hj).1
    have tTe : mT M (4 + 6 * j) = (7, 0) := (hW.2.2.2 j hj).2.1
    have K2 : ∀ y, y = ac1 (eqW w c) S t d (j + 1) (if bt2 S j = 1 ∧ eqW w c j t = true then n + 1 else n) → y ≤ 4 → _ := K
    refine wp_iload rfl (ck_get kk_Wo_mostAlike 27 rfl) ?_
    refine wp_iconst (v := nI 4) (by decide) (ck_get kk_Wo_mostAlike 28 rfl) ?_
    first | refine wp_icmp_geN (t := 86) (ck_get kk_Wo_mostAlike 29 rfl) (by decide) (by omega) (by omega) (fun hc48 => ?_) (fun hc48 => ?_) | refine wp_icmp_ge (t := 86) (ck_get kk_Wo_mostAlike 29 rfl) (by decide) (fun hc48 => ?_) (fun hc48 => ?_)
    · omega
    · refine wp_iload_n rfl (ck_get kk_Wo_mostAlike 30 rfl) ?_
      refine wp_iload rfl (ck_get kk_Wo_mostAlike 31 rfl) ?_
      refine wp_iushr (ck_get kk_Wo_mostAlike 32 rfl) ?_
      refine wp_iconst (v := nI 1) (by decide) (ck_get kk_Wo_mostAlike 33 rfl) ?_
      refine wp_iand (ck_get kk_Wo_mostAlike 34 rfl) ?_
      rw [hsb]
      refine wp_iconst (v := nI 1) (by decide) (ck_get kk_Wo_mostAlike 35 rfl) ?_
      first | refine wp_icmp_neN (t := 80) (ck_get kk_Wo_mostAlike 36 rfl) (by decide) (by omega) (by omega) (fun hc58 => ?_) (fun hc58 => ?_) | refine wp_icmp_ne (t := 80) (ck_get kk_Wo_mostAlike 36 rfl) (by decide) (fun hc58 => ?_) (fun hc58 => ?_)
      · first | refine wp_iincN (ck_get kk_Wo_mostAlike 46 rfl) rfl (by decide) rfl ?_ | refine wp_iinc (ck_get kk_Wo_mostAlike 46 rfl) rfl (by decide) rfl ?_
        refine wp_goto (t := 45) (ck_get kk_Wo_mostAlike 47 rfl) (by decide) ?_
        rw [if_neg (fun q => by omega)] at K2
        exact ih (j + 1) n (by omega) (by omega) K2
      · refine wp_aload_n rfl (ck_get kk_Wo_mostAlike 37 rfl) ?_
        refine wp_getR (ck_get kk_Wo_mostAlike 38 rfl) fl_Wo_11 (by assumption) (by assumption) ?_
        refine wp_iload rfl (ck_get kk_Wo_mostAlike 39 rfl) ?_
        refine wp_aald (ck_get kk_Wo_mostAlike 40 rfl) (by assumption) (by first | assumption | exact ixk_nI (by omega) (by omega)) (by assumption) ?_
        refine wp_iload_n rfl (ck_get kk_Wo_mostAlike 41 rfl) ?_
        refine wp_cV1i (ck_get kk_Wo_mostAlike 42 rfl) ml_Wo_30 (by omega) (Nat.le_of_ble_eq_true rfl) (by assumption) (Ci.to (c_missW (a := 2) (by exact hW) (by exact hH) hj hc) ?_)
        rintro _ M1 ⟨rfl, eqm1⟩
        obtain rfl := eqm1.symm
        refine wp_iload rfl (ck_get kk_Wo_mostAlike 43 rfl) ?_
        refine wp_icmp_ne (t := 80) (ck_get kk_Wo_mostAlike 44 rfl) (by decide) (fun hc74 => ?_) (fun hc74 => ?_)
        · first | refine wp_iincN (ck_get kk_Wo_mostAlike 46 rfl) rfl (by decide) rfl ?_ | refine wp_iinc (ck_get kk_Wo_mostAlike 46 rfl) rfl (by decide) rfl ?_
          refine wp_goto (t := 45) (ck_get kk_Wo_mostAlike 47 rfl) (by decide) ?_
          rw [if_neg (fun q => hc74 (of_decide_eq_true q.2))] at K2
          exact ih (j + 1) n (by omega) (by omega) K2
        · first | refine wp_iincN (ck_get kk_Wo_mostAlike 45 rfl) rfl (by decide) rfl ?_ | refine wp_iinc (ck_get kk_Wo_mostAlike 45 rfl) rfl (by decide) rfl ?_
          first | refine wp_iincN (ck_get kk_Wo_mostAlike 46 rfl) rfl (by decide) rfl ?_ | refine wp_iinc (ck_get kk_Wo_mostAlike 46 rfl) rfl (by decide) rfl ?_
          refine wp_goto (t := 45) (ck_get kk_Wo_mostAlike 47 rfl) (by decide) ?_
          rw [if_pos ⟨by omega, decide_eq_true hc74⟩] at K2
          exact ih (j + 1) (n + 1) (by omega) (by omega) K2
theorem c_wmA {S c : Nat} {w : WS} (hW : WoAt (mT M) (mR M) 2) (hH : WoHas (mI M) (mJ M) 2 w) (hS : S < 16) (hc : c < 25) : Ci g Y_Wo_mostAlike 1 [.ref 2, .int (nI S), .int (nI c)] M (fun x M2 => x = nI (acA (eqW w c) S 4 0 0) ∧ M2 = M) := by
  have t2 := hW.1
  have r20 : mR M 2 0 = some 3 := hW.2.1
  have t3 : mT M 3 = (24, 4) := hW.2.2.1
  have hlp : ∀ d t m (x5 x6 x7 : Option Value), t + d = 4 → m ≤ 4 → Wp g Y_Wo_mostAlike 1 5 [some (.ref 2), some (.int (nI S)), some (.int (nI c)), some (.int (nI m)), some (.int (nI t)), x5, x6, x7] [] M (fun r M2 => ∃ x, r = some (.int x) ∧ x = nI (acA (eqW w c) S d t m) ∧ M2 = M) := by
    intro d
    induction d with
    | zero =>
      intro t m x5 x6 x7 h1 hm
      refine wp_iload rfl (ck_get kk_Wo_mostAlike 4 rfl) ?_
      refine wp_iconst (v := nI 4) (by decide) (ck_get kk_Wo_mostAlike 5 rfl) ?_
      first | refine wp_icmp_geN (t := 99) (ck_get kk_Wo_mostAlike 6 rfl) (by decide) (by omega) (by omega) (fun hc8 => ?_) (fun hc8 => ?_) | refine wp_icmp_ge (t := 99) (ck_get kk_Wo_mostAlike 6 rfl) (by decide) (fun hc8 => ?_) (fun hc8 => ?_)
      · refine wp_iload_n rfl (ck_get kk_Wo_mostAlike 54 rfl) ?_
        refine wp_ireturn (ck_get kk_Wo_mostAlike 55 rfl) rfl rfl ⟨_, rfl, ?_⟩
        exact ⟨rfl, rfl⟩
      · omega
    | succ d ih =>
      intro t m x5 x6 x7 h1 hm
      have ht : t < 4 := by omega
      have hb := bt2_lt S t
      have hsb : ((nI S).toUInt32 >>> ((nI t).toUInt32 &&& Int32.toUInt32 31)).toInt32 &&& nI 1 = nI (bt2 S t) := sh_bt ⟨S, hS⟩ ⟨t, ht⟩
      have rTe : mR M 3 t = some (4 + 6 * t) := (hW.2.2.2 t ht).1
      have tTe : mT M (4 + 6 * t) = (7, 0) := (hW.2.2.2 t ht).2.1
      have e0 : acA (eqW w c) S (d + 1) t m = acA (eqW w c) S d (t + 1) (if bt2 S t = 1 then max m (ac1 (eqW w c) S t (3 - t) (t + 1) 1) else m) := rfl
      rw [e0]
      refine wp_iload rfl (ck_get kk_Wo_mostAlike 4 rfl) ?_
      refine wp_iconst (v := nI 4) (by decide) (ck_get kk_Wo_mostAlike 5 rfl) ?_
      first | refine wp_icmp_geN (t := 99) (ck_get kk_Wo_mostAlike 6 rfl) (by decide) (by omega) (by omega) (fun hc8 => ?_) (fun hc8 => ?_) | refine wp_icmp_ge (t := 99) (ck_get kk_Wo_mostAlike 6 rfl) (by decide) (fun hc8 => ?_) (fun hc8 => ?_)
      · omega
      · refine wp_iload_n rfl (ck_get kk_Wo_mostAlike 7 rfl) ?_
        refine wp_iload rfl (ck_get kk_Wo_mostAlike 8 rfl) ?_
        refine wp_iushr (ck_get kk_Wo_mostAlike 9 rfl) ?_
        refine wp_iconst (v := nI 1) (by decide) (ck_get kk_Wo_mostAlike 10 rfl) ?_
        refine wp_iand (ck_get kk_Wo_mostAlike 11 rfl) ?_
        rw [hsb]
        first | refine wp_if_neN (t := 23) (ck_get kk_Wo_mostAlike 12 rfl) (by decide) (by omega) (fun hc17 => ?_) (fun hc17 => ?_) | refine wp_if_ne (t := 23) (ck_get kk_Wo_mostAlike 12 rfl) (by decide) (fun hc17 => ?_) (fun hc17 => ?_)
        · refine wp_aload_n rfl (ck_get kk_Wo_mostAlike 14 rfl) ?_
          refine wp_getR (ck_get kk_Wo_mostAlike 15 rfl) fl_Wo_11 (by assumption) (by assumption) ?_
          refine wp_iload rfl (ck_get kk_Wo_mostAlike 16 rfl) ?_
          refine wp_aald (ck_get kk_Wo_mostAlike 17 rfl) (by assumption) (by first | assumption | exact ixk_nI (by omega) (by omega)) (by assumption) ?_
          refine wp_iload_n rfl (ck_get kk_Wo_mostAlike 18 rfl) ?_
          refine wp_cV1i (ck_get kk_Wo_mostAlike 19 rfl) ml_Wo_30 (by omega) (Nat.le_of_ble_eq_true rfl) (by assumption) (Ci.to (c_missW (a := 2) (by exact hW) (by exact hH) ht hc) ?_)
          rintro _ M1 ⟨rfl, eqm1⟩
          obtain rfl := eqm1.symm
          refine wp_istore (ck_get kk_Wo_mostAlike 20 rfl) (by decide) rfl ?_
          refine wp_iconst (v := nI 1) (by decide) (ck_get kk_Wo_mostAlike 21 rfl) ?_
          refine wp_istore (ck_get kk_Wo_mostAlike 22 rfl) (by decide) rfl ?_
          refine wp_iload rfl (ck_get kk_Wo_mostAlike 23 rfl) ?_
          refine wp_iconst (v := nI 1) (by decide) (ck_get kk_Wo_mostAlike 24 rfl) ?_
          first | refine wp_iaddN (ck_get kk_Wo_mostAlike 25 rfl) ?_ | refine wp_iadd (ck_get kk_Wo_mostAlike 25 rfl) ?_
          refine wp_istore (ck_get kk_Wo_mostAlike 26 rfl) (by decide) rfl ?_
          refine l_wmA1 (t := t) hW hH hS hc ht (3 - t) (t + 1) 1 (by omega) (by omega) (fun y hy hy4 => ?_)
          refine wp_iload_n rfl (ck_get kk_Wo_mostAlike 48 rfl) ?_
          refine wp_iload rfl (ck_get kk_Wo_mostAlike 49 rfl) ?_
          refine wp_cS2i (ck_get kk_Wo_mostAlike 50 rfl) ml_Wo_34 (by omega) (Nat.le_of_ble_eq_true rfl) (Ci.to (c_max (a := m) (b := y) (by omega) (by omega)) ?_)
          rintro _ M1 ⟨rfl, eqm1⟩
          obtain rfl := eqm1.symm
          refine wp_istore_n (ck_get kk_Wo_mostAlike 51 rfl) (by decide) rfl ?_
          first | refine wp_iincN (ck_get kk_Wo_mostAlike 52 rfl) rfl (by decide) rfl ?_ | refine wp_iinc (ck_get kk_Wo_mostAlike 52 rfl) rfl (by decide) rfl ?_
          refine wp_goto (t := 5) (ck_get kk_Wo_mostAlike 53 rfl) (by decide) ?_
          rw [if_pos (by omega), ← hy]
          exact ih (t + 1) (max m y) _ _ _ (by omega) (by omega)
        · refine wp_goto (t := 93) (ck_get kk_Wo_mostAlike 13 rfl) (by decide) ?_
          first | refine wp_iincN (ck_get kk_Wo_mostAlike 52 rfl) rfl (by decide) rfl ?_ | refine wp_iinc (ck_get kk_Wo_mostAlike 52 rfl) rfl (by decide) rfl ?_
          refine wp_goto (t := 5) (ck_get kk_Wo_mostAlike 53 rfl) (by decide) ?_
          rw [if_neg (by omega)]
          exact ih (t + 1) m _ _ _ (by omega) hm
  refine cw_entry 5 pf_Wo_mostAlike rfl ?_
  refine wp_iconst (v := nI 0) (by decide) (ck_get kk_Wo_mostAlike 0 rfl) ?_
  refine wp_istore_n (ck_get kk_Wo_mostAlike 1 rfl) (by decide) rfl ?_
  refine wp_iconst (v := nI 0) (by decide) (ck_get kk_Wo_mostAlike 2 rfl) ?_
  refine wp_istore (ck_get kk_Wo_mostAlike 3 rfl) (by decide) rfl ?_
  exact hlp 4 0 0 none none none (by omega) (by omega)
theorem m_mA {S c : Nat} {w : WS} {f : Nat → Int32} (hM : MoAt (mT M) (mR M) 1020) (hf : MsL f w 4) (hS : S < 16) (hc : c < 25) : Ci g Y_Mo_mostAlike 1 [.ref 1020, .int (nI S), .int (nI c)] (mfM M f) (fun x M2 => x = nI (amA (eqW w c) S 4 0 0) ∧ M2 = mfM M f) := by
  have to0 := hM.1
  have hlp1 : ∀ (x3 : Int32) (a : Nat), a < 4 → ∀ {Q : Option Value → Mem → Prop} (d b n : Nat), b + d = 4 → n ≤ b → (∀ y, y = am1 (eqW w c) S a d b n → y ≤ 4 → Wp g Y_Mo_mostAlike 1 66 [some (.ref 1020), some (.int (nI S)), some (.int (nI c)), some (.int x3), some (.int (nI a)), some (.int (nI y)), some (.int (nI 4))] [] (mfM M f) Q) → Wp g Y_Mo_mostAlike 1 17 [some (.ref 1020), some (.int (nI S)), some (.int (nI c)), some (.int x3), some (.int (nI a)), some (.int (nI n)), some (.int (nI b))] [] (mfM M f) Q := by
    intro x3 a ha Q d
    induction d with
    | zero =>
      intro b n h1 hn K
      obtain rfl : b = 4 := by omega
      refine wp_iload rfl (ck_get kk_Mo_mostAlike 11 rfl) ?_
      refine wp_iconst (v := nI 4) (by decide) (ck_get kk_Mo_mostAlike 12 rfl) ?_
      first | refine wp_icmp_geN (t := 66) (ck_get kk_Mo_mostAlike 13 rfl) (by decide) (by omega) (by omega) (fun hc20 => ?_) (fun hc20 => ?_) | refine wp_icmp_ge (t := 66) (ck_get kk_Mo_mostAlike 13 rfl) (by decide) (fun hc20 => ?_) (fun hc20 => ?_)
      · exact K n rfl hn
      · omega
    | succ d ih =>
      intro b n h1 hn K
      have hb4 : b < 4 := by omega
      have hbb : decide (((nI S).toInt64 >>> ((nI b).toInt64 &&& 63)) &&& 1 = 1) = decide (bt2 S b = 1) := sh_btL ⟨S, hS⟩ ⟨b, hb4⟩
      have K2 : ∀ y, y = am1 (eqW w c) S a d (b + 1) (if bt2 S b = 1 ∧ eqW w c a b = true then n + 1 else n) → y ≤ 4 → _ := K
      refine wp_iload rfl (ck_get kk_Mo_mostAlike 11 rfl) ?_
      refine wp_iconst (v := nI 4) (by decide) (ck_get kk_Mo_mostAlike 12 rfl) ?_
      first | refine wp_icmp_geN (t := 66) (ck_get kk_Mo_mostAlike 13 rfl) (by decide) (by omega) (by omega) (fun hc20 => ?_) (fun hc20 => ?_) | refine wp_icmp_ge (t := 66) (ck_get kk_Mo_mostAlike 13 rfl) (by decide) (fun hc20 => ?_) (fun hc20 => ?_)
      · omega
      · refine wp_iload rfl (ck_get kk_Mo_mostAlike 14 rfl) ?_
        refine wp_iload_n rfl (ck_get kk_Mo_mostAlike 15 rfl) ?_
        refine wp_i2l (ck_get kk_Mo_mostAlike 16 rfl) ?_
        refine wp_iload rfl (ck_get kk_Mo_mostAlike 17 rfl) ?_
        refine wp_cS2i (ck_get kk_Mo_mostAlike 18 rfl) ml_Mo_468 (by omega) (Nat.le_of_ble_eq_true rfl) (Ci.to (m_isIn) ?_)
        rintro _ M1 ⟨rfl, eqm1⟩
        obtain rfl := eqm1.symm
        rw [hbb]
        refine wp_if_eq (t := 56) (ck_get kk_Mo_mostAlike 19 rfl) (by decide) (fun hc32 => ?_) (fun hc32 => ?_)
        · refine wp_iconst (v := nI 0) (by decide) (ck_get kk_Mo_mostAlike 31 rfl) ?_
          first | refine wp_iaddN (ck_get kk_Mo_mostAlike 32 rfl) ?_ | refine wp_iadd (ck_get kk_Mo_mostAlike 32 rfl) ?_
          refine wp_istore (ck_get kk_Mo_mostAlike 33 rfl) (by decide) rfl ?_
          first | refine wp_iincN (ck_get kk_Mo_mostAlike 34 rfl) rfl (by decide) rfl ?_ | refine wp_iinc (ck_get kk_Mo_mostAlike 34 rfl) rfl (by decide) rfl ?_
          refine wp_goto (t := 17) (ck_get kk_Mo_mostAlike 35 rfl) (by decide) ?_
          rw [if_neg (fun q => by rw [decide_eq_true q.1] at hc32; exact absurd hc32 (by decide))] at K2
          exact ih (b + 1) n (by omega) (by omega) K2
        · refine wp_aload_n rfl (ck_get kk_Mo_mostAlike 20 rfl) ?_
          refine wp_iload rfl (ck_get kk_Mo_mostAlike 21 rfl) ?_
          refine wp_iload_n rfl (ck_get kk_Mo_mostAlike 22 rfl) ?_
          refine wp_cV2i (ck_get kk_Mo_mostAlike 23 rfl) ml_Mo_410 (by omega) (Nat.le_of_ble_eq_true rfl) (by assumption) (Ci.to (m_missAt (t := a) (c := c) (by exact hM) ha hc) ?_)
          rintro x M1 ⟨w1, w2⟩
          subst w2
          rw [mf_40, hf a c ha hc] at w1
          subst w1
          refine wp_aload_n rfl (ck_get kk_Mo_mostAlike 24 rfl) ?_
          refine wp_iload rfl (ck_get kk_Mo_mostAlike 25 rfl) ?_
          refine wp_iload_n rfl (ck_get kk_Mo_mostAlike 26 rfl) ?_
          refine wp_cV2i (ck_get kk_Mo_mostAlike 27 rfl) ml_Mo_410 (by omega) (Nat.le_of_ble_eq_true rfl) (by assumption) (Ci.to (m_missAt (t := b) (c := c) (by exact hM) hb4 hc) ?_)
          rintro x M1 ⟨w1, w2⟩
          subst w2
          rw [mf_40, hf b c hb4 hc] at w1
          subst w1
          refine wp_icmp_ne (t := 56) (ck_get kk_Mo_mostAlike 28 rfl) (by decide) (fun hc49 => ?_) (fun hc49 => ?_)
          · refine wp_iconst (v := nI 0) (by decide) (ck_get kk_Mo_mostAlike 31 rfl) ?_
            first | refine wp_iaddN (ck_get kk_Mo_mostAlike 32 rfl) ?_ | refine wp_iadd (ck_get kk_Mo_mostAlike 32 rfl) ?_
            refine wp_istore (ck_get kk_Mo_mostAlike 33 rfl) (by decide) rfl ?_
            first | refine wp_iincN (ck_get kk_Mo_mostAlike 34 rfl) rfl (by decide) rfl ?_ | refine wp_iinc (ck_get kk_Mo_mostAlike 34 rfl) rfl (by decide) rfl ?_
            refine wp_goto (t := 17) (ck_get kk_Mo_mostAlike 35 rfl) (by decide) ?_
            rw [if_neg (fun q => hc49 (of_decide_eq_true q.2))] at K2
            exact ih (b + 1) n (by omega) (by omega) K2
          · refine wp_iconst (v := nI 1) (by decide) (ck_get kk_Mo_mostAlike 29 rfl) ?_
            refine wp_goto (t := 57) (ck_get kk_Mo_mostAlike 30 rfl) (by decide) ?_
            first | refine wp_iaddN (ck_get kk_Mo_mostAlike 32 rfl) ?_ | refine wp_iadd (ck_get kk_Mo_mostAlike 32 rfl) ?_
            refine wp_istore (ck_get kk_Mo_mostAlike 33 rfl) (by decide) rfl ?_
            first | refine wp_iincN (ck_get kk_Mo_mostAlike 34 rfl) rfl (by decide) rfl ?_ | refine wp_iinc (ck_get kk_Mo_mostAlike 34 rfl) rfl (by decide) rfl ?_
            refine wp_goto (t := 17) (ck_get kk_Mo_mostAlike 35 rfl) (by decide) ?_
            rw [if_pos ⟨of_decide_eq_true (bI_1 hc32), decide_eq_true hc49⟩] at K2
            exact ih (b + 1) (n + 1) (by omega) (by omega) K2
  have hlp : ∀ d a m (x5 x6 : Option Value), a + d = 4 → m ≤ 4 → Wp g Y_Mo_mostAlike 1 5 [some (.ref 1020), some (.int (nI S)), some (.int (nI c)), some (.int (nI m)), some (.int (nI a)), x5, x6] [] (mfM M f) (fun r M2 => ∃ x, r = some (.int x) ∧ x = nI (amA (eqW w c) S d a m) ∧ M2 = mfM M f) := by
    intro d
    induction d with
    | zero =>
      intro a m x5 x6 h1 hm
      refine wp_iload rfl (ck_get kk_Mo_mostAlike 4 rfl) ?_
      refine wp_iconst (v := nI 4) (by decide) (ck_get kk_Mo_mostAlike 5 rfl) ?_
      first | refine wp_icmp_geN (t := 93) (ck_get kk_Mo_mostAlike 6 rfl) (by decide) (by omega) (by omega) (fun hc8 => ?_) (fun hc8 => ?_) | refine wp_icmp_ge (t := 93) (ck_get kk_Mo_mostAlike 6 rfl) (by decide) (fun hc8 => ?_) (fun hc8 => ?_)
      · refine wp_iload_n rfl (ck_get kk_Mo_mostAlike 49 rfl) ?_
        refine wp_ireturn (ck_get kk_Mo_mostAlike 50 rfl) rfl rfl ⟨_, rfl, ?_⟩
        exact ⟨rfl, rfl⟩
      · omega
    | succ d ih =>
      intro a m x5 x6 h1 hm
      have ha : a < 4 := by omega
      have hbb : decide (((nI S).toInt64 >>> ((nI a).toInt64 &&& 63)) &&& 1 = 1) = decide (bt2 S a = 1) := sh_btL ⟨S, hS⟩ ⟨a, ha⟩
      have e0 : amA (eqW w c) S (d + 1) a m = amA (eqW w c) S d (a + 1) (if bt2 S a = 1 then max m (am1 (eqW w c) S a 4 0 0) else m) := rfl
      rw [e0]
      refine wp_iload rfl (ck_get kk_Mo_mostAlike 4 rfl) ?_
      refine wp_iconst (v := nI 4) (by decide) (ck_get kk_Mo_mostAlike 5 rfl) ?_
      first | refine wp_icmp_geN (t := 93) (ck_get kk_Mo_mostAlike 6 rfl) (by decide) (by omega) (by omega) (fun hc8 => ?_) (fun hc8 => ?_) | refine wp_icmp_ge (t := 93) (ck_get kk_Mo_mostAlike 6 rfl) (by decide) (fun hc8 => ?_) (fun hc8 => ?_)
      · omega
      · refine wp_iconst (v := nI 0) (by decide) (ck_get kk_Mo_mostAlike 7 rfl) ?_
        refine wp_istore (ck_get kk_Mo_mostAlike 8 rfl) (by decide) rfl ?_
        refine wp_iconst (v := nI 0) (by decide) (ck_get kk_Mo_mostAlike 9 rfl) ?_
        refine wp_istore (ck_get kk_Mo_mostAlike 10 rfl) (by decide) rfl ?_
        refine hlp1 (nI m) a ha 4 0 0 (by omega) (by omega) (fun y hy hy4 => ?_)
        refine wp_iload_n rfl (ck_get kk_Mo_mostAlike 36 rfl) ?_
        refine wp_i2l (ck_get kk_Mo_mostAlike 37 rfl) ?_
        refine wp_iload rfl (ck_get kk_Mo_mostAlike 38 rfl) ?_
        refine wp_cS2i (ck_get kk_Mo_mostAlike 39 rfl) ml_Mo_468 (by omega) (Nat.le_of_ble_eq_true rfl) (Ci.to (m_isIn) ?_)
        rintro _ M1 ⟨rfl, eqm1⟩
        obtain rfl := eqm1.symm
        rw [hbb]
        refine wp_if_eq (t := 85) (ck_get kk_Mo_mostAlike 40 rfl) (by decide) (fun hc73 => ?_) (fun hc73 => ?_)
        · refine wp_iload_n rfl (ck_get kk_Mo_mostAlike 45 rfl) ?_
          refine wp_istore_n (ck_get kk_Mo_mostAlike 46 rfl) (by decide) rfl ?_
          first | refine wp_iincN (ck_get kk_Mo_mostAlike 47 rfl) rfl (by decide) rfl ?_ | refine wp_iinc (ck_get kk_Mo_mostAlike 47 rfl) rfl (by decide) rfl ?_
          refine wp_goto (t := 5) (ck_get kk_Mo_mostAlike 48 rfl) (by decide) ?_
          rw [if_neg (fun q => by rw [decide_eq_true q] at hc73; exact absurd hc73 (by decide))]
          exact ih (a + 1) m _ _ (by omega) hm
        · refine wp_iload_n rfl (ck_get kk_Mo_mostAlike 41 rfl) ?_
          refine wp_iload rfl (ck_get kk_Mo_mostAlike 42 rfl) ?_
          refine wp_cS2i (ck_get kk_Mo_mostAlike 43 rfl) ml_Mo_374 (by omega) (Nat.le_of_ble_eq_true rfl) (Ci.to (m_greater (a := m) (b := y) (by omega) (by omega)) ?_)
          rintro _ M1 ⟨rfl, eqm1⟩
          obtain rfl := eqm1.symm
          refine wp_goto (t := 86) (ck_get kk_Mo_mostAlike 44 rfl) (by decide) ?_
          refine wp_istore_n (ck_get kk_Mo_mostAlike 46 rfl) (by decide) rfl ?_
          first | refine wp_iincN (ck_get kk_Mo_mostAlike 47 rfl) rfl (by decide) rfl ?_ | refine wp_iinc (ck_get kk_Mo_mostAlike 47 rfl) rfl (by decide) rfl ?_
          refine wp_goto (t := 5) (ck_get kk_Mo_mostAlike 48 rfl) (by decide) ?_
          rw [if_pos (of_decide_eq_true (bI_1 hc73)), ← hy]
          exact ih (a + 1) (max m y) _ _ (by omega) (by omega)
  refine cw_entry 4 pf_Mo_mostAlike rfl ?_
  refine wp_iconst (v := nI 0) (by decide) (ck_get kk_Mo_mostAlike 0 rfl) ?_
  refine wp_istore_n (ck_get kk_Mo_mostAlike 1 rfl) (by decide) rfl ?_
  refine wp_iconst (v := nI 0) (by decide) (ck_get kk_Mo_mostAlike 2 rfl) ?_
  refine wp_istore (ck_get kk_Mo_mostAlike 3 rfl) (by decide) rfl ?_
  exact hlp 4 0 0 none none (by omega) (by omega)
end ASB
