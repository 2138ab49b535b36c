/-! ===== what is done, with what can be undone ===== -/
theorem nI_sub_neg {a b : Nat} (ha : a < 2147483648) (h : b < a) : nI b - nI a < 0 := by
  have h1 : (nI b - nI a).toInt = (b : Int) - a := by
    rw [Int32.toInt_sub, show (nI b).toInt = b from Int32.toInt_ofNat_of_lt (by omega), show (nI a).toInt = a from Int32.toInt_ofNat_of_lt (by omega)]
    exact Int.bmod_eq_of_le (by omega) (by omega)
  rw [Int32.lt_iff_toInt_lt, h1]
  have h0 : (0 : Int32).toInt = 0 := by decide
  omega
theorem inB_sub {a b : Nat} (ha : a < 1000) (hb : b < 1000) : inB (nI b - nI a) 32 = decide (a ≤ b ∧ b - a < 32) := by
  by_cases h : a ≤ b
  · rw [pk_sub h]
    by_cases h2 : b - a < 32
    · rw [inB_nI h2 (by omega), decide_eq_true ⟨h, h2⟩]
    · rw [decide_eq_false (fun q => h2 q.2)]
      unfold inB
      rw [decide_eq_false (p := nI (b - a) < nI 32) (fun q => h2 ((nI_ltI (by omega) (by omega)).mp q)), Bool.and_false]
  · rw [decide_eq_false (fun q => h q.1)]
    unfold inB
    rw [decide_eq_false (p := ¬ nI b - nI a < 0) (fun q => q (nI_sub_neg (by omega) (by omega))), Bool.false_and]
section ACA
variable (res : (Nat → Int32) → Int32 × Int32) (md salt : Nat)
def acV (kd : Nat) (ws : WS) (t a b : Int32) : Int32 :=
  if kd = 3 then (if ws.1 < 999 then 0 else -3)
  else if inB t 4 = true ∧ inB a 1000 = true ∧ inB b 1000 = true then
    (if kd = 1 ∧ ¬ (a.toNatClampNeg ≤ b.toNatClampNeg ∧ b.toNatClampNeg - a.toNatClampNeg < 32) then -1
     else if kd = 2 ∧ posL (tSt (ws.2 t.toNatClampNeg)) a.toNatClampNeg = 0 then -3 else 0)
  else -1
def acW (kd : Nat) (ws : WS) (t k k2 : Nat) : Nat × WS :=
  if kd = 0 then (rxA res md ws t k, rdA res md salt ws t k)
  else if kd = 1 then lpA res md salt t (k2 - k + 1) k ws
  else if kd = 2 then (posL (tSt (ws.2 t)) k, setT ws t (drT (ws.2 t) k))
  else (tot (hvW ws), hvW ws)
end ACA
section ACB
variable {res : (Nat → Int32) → Int32 × Int32} {md salt : Nat}
/-- how what is done may be: numbers -/
theorem acV_ok {kd : Nat} {ws : WS} {t a b : Int32} (hk : kd < 3) (h : acV kd ws t a b = 0) : ∃ t' k k2, t = nI t' ∧ a = nI k ∧ b = nI k2 ∧ t' < 4 ∧ k < 1000 ∧ k2 < 1000 ∧ (kd = 1 → k ≤ k2 ∧ k2 - k < 32) ∧ (kd = 2 → posL (tSt (ws.2 t')) k ≠ 0) := by
  unfold acV at h
  rw [if_neg (by omega)] at h
  by_cases h1 : inB t 4 = true ∧ inB a 1000 = true ∧ inB b 1000 = true
  · rw [if_pos h1] at h
    obtain ⟨t', ht, rfl⟩ := inB_t h1.1 (by omega)
    obtain ⟨k, hk1, rfl⟩ := inB_t h1.2.1 (by omega)
    obtain ⟨k2, hk2, rfl⟩ := inB_t h1.2.2 (by omega)
    rw [nI_clamp (by omega), nI_clamp (by omega), nI_clamp (by omega)] at h
    refine ⟨t', k, k2, rfl, rfl, rfl, ht, hk1, hk2, fun e => ?_, fun e e2 => ?_⟩
    · by_cases h2 : k ≤ k2 ∧ k2 - k < 32
      · exact h2
      · rw [if_pos ⟨e, h2⟩] at h; exact absurd h (by decide)
    · rw [if_neg (by omega), if_pos ⟨e, e2⟩] at h; exact absurd h (by decide)
  · rw [if_neg h1] at h; exact absurd h (by decide)
theorem acW_ok (hR : ResOK res) {kd : Nat} {ws : WS} {t k k2 : Nat} (hT : WOK ws) (h : (kd = 3 ∧ ws.1 < 999) ∨ (kd < 3 ∧ t < 4 ∧ k < 1000 ∧ k2 < 1000 ∧ (kd = 1 → k ≤ k2 ∧ k2 - k < 32))) : WOK (acW res md salt kd ws t k k2).2 ∧ tot (acW res md salt kd ws t k k2).2 ≤ tot ws + 3168 := by
  unfold acW
  rcases h with ⟨rfl, h⟩ | ⟨h1, h2, h3, h4, h5⟩
  · rw [if_neg (by omega), if_neg (by omega), if_neg (by omega)]
    exact ⟨hT.hv h, Nat.le_trans tot_hv (by omega)⟩
  · by_cases e0 : kd = 0
    · rw [if_pos e0]
      exact ⟨hT.rdA h2 h3, Nat.le_trans (tot_rdA hR) (by omega)⟩
    rw [if_neg e0]
    by_cases e1 : kd = 1
    · rw [if_pos e1]
      have h6 := h5 e1
      obtain ⟨a1, a2, a3⟩ := lpA_ok (md := md) (salt := salt) hR h2 (k2 - k + 1) k ws (by omega) hT
      exact ⟨a1, by omega⟩
    · rw [if_neg e1, if_pos (by omega)]
      exact ⟨hT.set (hT.2 t h2).dr, Nat.le_trans tot_dr (by omega)⟩
end ACB
section ACC
variable {g : Gl} {M : Mem} {pf pg : Nat → Nat} {res : (Nat → Int32) → Int32 × Int32} {md salt : Nat}
theorem slA_lt {i : Nat} (h : i < 32) : 34 ≤ slA i ∧ slA i + 26 ≤ 869 ∧ (slA i + 26 ≤ 450 ∨ 453 ≤ slA i) := by
  unfold slA
  by_cases hi : i < 16
  · rw [if_pos hi]; omega
  · rw [if_neg hi]; omega
theorem slA_apart {i j : Nat} (h : i < 32) (h2 : j < 32) (hn : i ≠ j) : slA i + 26 ≤ slA j ∨ slA j + 26 ≤ slA i := by
  unfold slA
  by_cases hi : i < 16
  · rw [if_pos hi]
    by_cases hj : j < 16
    · rw [if_pos hj]; omega
    · rw [if_neg hj]; omega
  · rw [if_neg hi]
    by_cases hj : j < 16
    · rw [if_pos hj]; omega
    · rw [if_neg hj]; omega
theorem c_refusalOf {kd : Nat} {ws : WS} {t a b : Int32} (hL : LayC (mT M) (mR M) pf pg) (hs : WoHas (mI M) (mJ M) 2 ws) (hT : WOK ws) (hk : kd < 4) : Ci g Y_Mc_refusalOf 1 [.ref 0, .int (nI kd), .int t, .int a, .int b] M (fun x M2 => x = acV kd ws t a b ∧ M2 = M) := by
  obtain ⟨t0, ⟨r0, hSh⟩, -⟩ := hL
  have sh0 := hSh.1
  have sr0 := hSh.2.1
  have hW := hSh.2.2.1
  have tw := hW.1
  have rww := hW.2.1
  have twa := hW.2.2.1
  have hT1 := hT.1
  refine cw_entry 1 pf_Mc_refusalOf rfl ?_
  unfold acV
  by_cases h3 : kd = 3
  · rw [if_pos h3]
    subst h3
    by_cases h9 : ws.1 < 999
    · rw [if_pos h9]
      refine wp_iload_n rfl (ck_get kk_Mc_refusalOf 0 rfl) ?_
      refine wp_iconst (v := nI 3) (by decide) (ck_get kk_Mc_refusalOf 1 rfl) ?_
      first | refine wp_icmp_neN (t := 28) (ck_get kk_Mc_refusalOf 2 rfl) (by decide) (by omega) (by omega) (fun hc2 => ?_) (fun hc2 => ?_) | refine wp_icmp_ne (t := 28) (ck_get kk_Mc_refusalOf 2 rfl) (by decide) (fun hc2 => ?_) (fun hc2 => ?_)
      · omega
      · refine wp_aload_n rfl (ck_get kk_Mc_refusalOf 3 rfl) ?_
        refine wp_getR (ck_get kk_Mc_refusalOf 4 rfl) fl_Mc_12 (by assumption) (by assumption) ?_
        refine wp_getR (ck_get kk_Mc_refusalOf 5 rfl) fl_Mc_107 (by assumption) (by assumption) ?_
        refine wp_getIv (v := nI ws.1) (ck_get kk_Mc_refusalOf 6 rfl) fl_Mc_369 (by assumption) (hs.1) ?_
        refine wp_sipush (v := nI 999) (by decide) (ck_get kk_Mc_refusalOf 7 rfl) ?_
        first | refine wp_icmp_ltN (t := 26) (ck_get kk_Mc_refusalOf 8 rfl) (by decide) (by omega) (by omega) (fun hc18 => ?_) (fun hc18 => ?_) | refine wp_icmp_lt (t := 26) (ck_get kk_Mc_refusalOf 8 rfl) (by decide) (fun hc18 => ?_) (fun hc18 => ?_)
        · refine wp_iconst (v := nI 0) (by decide) (ck_get kk_Mc_refusalOf 11 rfl) ?_
          refine wp_ireturn (ck_get kk_Mc_refusalOf 12 rfl) rfl rfl ⟨_, rfl, ?_⟩
          exact ⟨rfl, rfl⟩
        · omega
    · rw [if_neg h9]
      refine wp_iload_n rfl (ck_get kk_Mc_refusalOf 0 rfl) ?_
      refine wp_iconst (v := nI 3) (by decide) (ck_get kk_Mc_refusalOf 1 rfl) ?_
      first | refine wp_icmp_neN (t := 28) (ck_get kk_Mc_refusalOf 2 rfl) (by decide) (by omega) (by omega) (fun hc2 => ?_) (fun hc2 => ?_) | refine wp_icmp_ne (t := 28) (ck_get kk_Mc_refusalOf 2 rfl) (by decide) (fun hc2 => ?_) (fun hc2 => ?_)
      · omega
      · refine wp_aload_n rfl (ck_get kk_Mc_refusalOf 3 rfl) ?_
        refine wp_getR (ck_get kk_Mc_refusalOf 4 rfl) fl_Mc_12 (by assumption) (by assumption) ?_
        refine wp_getR (ck_get kk_Mc_refusalOf 5 rfl) fl_Mc_107 (by assumption) (by assumption) ?_
        refine wp_getIv (v := nI ws.1) (ck_get kk_Mc_refusalOf 6 rfl) fl_Mc_369 (by assumption) (hs.1) ?_
        refine wp_sipush (v := nI 999) (by decide) (ck_get kk_Mc_refusalOf 7 rfl) ?_
        first | refine wp_icmp_ltN (t := 26) (ck_get kk_Mc_refusalOf 8 rfl) (by decide) (by omega) (by omega) (fun hc18 => ?_) (fun hc18 => ?_) | refine wp_icmp_lt (t := 26) (ck_get kk_Mc_refusalOf 8 rfl) (by decide) (fun hc18 => ?_) (fun hc18 => ?_)
        · omega
        · refine wp_bipush (v := (-3)) (by decide) (ck_get kk_Mc_refusalOf 9 rfl) ?_
          refine wp_goto (t := 27) (ck_get kk_Mc_refusalOf 10 rfl) (by decide) ?_
          refine wp_ireturn (ck_get kk_Mc_refusalOf 12 rfl) rfl rfl ⟨_, rfl, ?_⟩
          exact ⟨rfl, rfl⟩
  rw [if_neg h3]
  by_cases h1 : inB t 4 = true ∧ inB a 1000 = true ∧ inB b 1000 = true
  · rw [if_pos h1]
    obtain ⟨b1, b2, b3⟩ := h1
    obtain ⟨t', ht, rfl⟩ := inB_t b1 (by omega)
    obtain ⟨k, hk1, rfl⟩ := inB_t b2 (by omega)
    obtain ⟨k2, hk2, rfl⟩ := inB_t b3 (by omega)
    rw [nI_clamp (by omega), nI_clamp (by omega), nI_clamp (by omega)]
    have hte := hs.2 t' ht
    obtain ⟨rwt, hTe⟩ := hW.2.2.2 t' ht
    obtain ⟨te0, re0, -, -, -, -, te1, -⟩ := hTe
    have hpl := posL_le (L := tSt (ws.2 t')) (k := k)
    have hl24 := (hT.2 t' ht).1
    have hpi := c_placeIn (g := g) (M := M) (a := 2 + 2 + 6 * t' + 1) (key := nI k) te1 hl24 (by omega)
    rw [Row0.fnd hte.2.1] at hpi
    by_cases hl : kd = 1 ∧ ¬ (k ≤ k2 ∧ k2 - k < 32)
    · rw [if_pos hl]
      obtain ⟨rfl, hl⟩ := hl
      refine wp_iload_n rfl (ck_get kk_Mc_refusalOf 0 rfl) ?_
      refine wp_iconst (v := nI 3) (by decide) (ck_get kk_Mc_refusalOf 1 rfl) ?_
      first | refine wp_icmp_neN (t := 28) (ck_get kk_Mc_refusalOf 2 rfl) (by decide) (by omega) (by omega) (fun hc2 => ?_) (fun hc2 => ?_) | refine wp_icmp_ne (t := 28) (ck_get kk_Mc_refusalOf 2 rfl) (by decide) (fun hc2 => ?_) (fun hc2 => ?_)
      · refine wp_iload_n rfl (ck_get kk_Mc_refusalOf 13 rfl) ?_
        refine wp_cS1i (ck_get kk_Mc_refusalOf 14 rfl) ml_Mc_103 (by omega) (Nat.le_of_ble_eq_true rfl) (Ci.to (c_isTenant) ?_)
        rintro _ M1 ⟨rfl, eqm1⟩
        obtain rfl := eqm1.symm
        rw [b1]
        first | refine wp_if_eqN (t := 50) (ck_get kk_Mc_refusalOf 15 rfl) (by decide) (by omega) (fun hc32 => ?_) (fun hc32 => ?_) | refine wp_if_eq (t := 50) (ck_get kk_Mc_refusalOf 15 rfl) (by decide) (fun hc32 => ?_) (fun hc32 => ?_)
        · exact absurd hc32 (by decide)
        · refine wp_iload_n rfl (ck_get kk_Mc_refusalOf 16 rfl) ?_
          refine wp_cS1i (ck_get kk_Mc_refusalOf 17 rfl) ml_Mc_134 (by omega) (Nat.le_of_ble_eq_true rfl) (Ci.to (c_isKey) ?_)
          rintro _ M1 ⟨rfl, eqm1⟩
          obtain rfl := eqm1.symm
          rw [b2]
          first | refine wp_if_eqN (t := 50) (ck_get kk_Mc_refusalOf 18 rfl) (by decide) (by omega) (fun hc39 => ?_) (fun hc39 => ?_) | refine wp_if_eq (t := 50) (ck_get kk_Mc_refusalOf 18 rfl) (by decide) (fun hc39 => ?_) (fun hc39 => ?_)
          · exact absurd hc39 (by decide)
          · refine wp_iload rfl (ck_get kk_Mc_refusalOf 19 rfl) ?_
            refine wp_cS1i (ck_get kk_Mc_refusalOf 20 rfl) ml_Mc_134 (by omega) (Nat.le_of_ble_eq_true rfl) (Ci.to (c_isKey) ?_)
            rintro _ M1 ⟨rfl, eqm1⟩
            obtain rfl := eqm1.symm
            rw [b3]
            first | refine wp_if_neN (t := 52) (ck_get kk_Mc_refusalOf 21 rfl) (by decide) (by omega) (fun hc47 => ?_) (fun hc47 => ?_) | refine wp_if_ne (t := 52) (ck_get kk_Mc_refusalOf 21 rfl) (by decide) (fun hc47 => ?_) (fun hc47 => ?_)
            · refine wp_iload_n rfl (ck_get kk_Mc_refusalOf 24 rfl) ?_
              refine wp_iconst (v := nI 1) (by decide) (ck_get kk_Mc_refusalOf 25 rfl) ?_
              first | refine wp_icmp_neN (t := 74) (ck_get kk_Mc_refusalOf 26 rfl) (by decide) (by omega) (by omega) (fun hc54 => ?_) (fun hc54 => ?_) | refine wp_icmp_ne (t := 74) (ck_get kk_Mc_refusalOf 26 rfl) (by decide) (fun hc54 => ?_) (fun hc54 => ?_)
              · omega
              · refine wp_iload rfl (ck_get kk_Mc_refusalOf 27 rfl) ?_
                refine wp_iload_n rfl (ck_get kk_Mc_refusalOf 28 rfl) ?_
                first | refine wp_icmp_ltN (t := 72) (ck_get kk_Mc_refusalOf 29 rfl) (by decide) (by omega) (by omega) (fun hc60 => ?_) (fun hc60 => ?_) | refine wp_icmp_lt (t := 72) (ck_get kk_Mc_refusalOf 29 rfl) (by decide) (fun hc60 => ?_) (fun hc60 => ?_)
                · refine wp_iconst (v := (-1)) (by decide) (ck_get kk_Mc_refusalOf 35 rfl) ?_
                  refine wp_ireturn (ck_get kk_Mc_refusalOf 36 rfl) rfl rfl ⟨_, rfl, ?_⟩
                  exact ⟨rfl, rfl⟩
                · refine wp_iload rfl (ck_get kk_Mc_refusalOf 30 rfl) ?_
                  refine wp_iload_n rfl (ck_get kk_Mc_refusalOf 31 rfl) ?_
                  first | refine wp_isubN (ck_get kk_Mc_refusalOf 32 rfl) (by omega) ?_ | refine wp_isub (ck_get kk_Mc_refusalOf 32 rfl) ?_
                  refine wp_bipush (v := nI 32) (by decide) (ck_get kk_Mc_refusalOf 33 rfl) ?_
                  first | refine wp_icmp_ltN (t := 74) (ck_get kk_Mc_refusalOf 34 rfl) (by decide) (by omega) (by omega) (fun hc69 => ?_) (fun hc69 => ?_) | refine wp_icmp_lt (t := 74) (ck_get kk_Mc_refusalOf 34 rfl) (by decide) (fun hc69 => ?_) (fun hc69 => ?_)
                  · omega
                  · refine wp_iconst (v := (-1)) (by decide) (ck_get kk_Mc_refusalOf 35 rfl) ?_
                    refine wp_ireturn (ck_get kk_Mc_refusalOf 36 rfl) rfl rfl ⟨_, rfl, ?_⟩
                    exact ⟨rfl, rfl⟩
            · exact absurd hc47 (by decide)
      · omega
    · rw [if_neg hl]
      by_cases hd : kd = 2 ∧ posL (tSt (ws.2 t')) k = 0
      · rw [if_pos hd]
        obtain ⟨rfl, hd⟩ := hd
        refine wp_iload_n rfl (ck_get kk_Mc_refusalOf 0 rfl) ?_
        refine wp_iconst (v := nI 3) (by decide) (ck_get kk_Mc_refusalOf 1 rfl) ?_
        first | refine wp_icmp_neN (t := 28) (ck_get kk_Mc_refusalOf 2 rfl) (by decide) (by omega) (by omega) (fun hc2 => ?_) (fun hc2 => ?_) | refine wp_icmp_ne (t := 28) (ck_get kk_Mc_refusalOf 2 rfl) (by decide) (fun hc2 => ?_) (fun hc2 => ?_)
        · refine wp_iload_n rfl (ck_get kk_Mc_refusalOf 13 rfl) ?_
          refine wp_cS1i (ck_get kk_Mc_refusalOf 14 rfl) ml_Mc_103 (by omega) (Nat.le_of_ble_eq_true rfl) (Ci.to (c_isTenant) ?_)
          rintro _ M1 ⟨rfl, eqm1⟩
          obtain rfl := eqm1.symm
          rw [b1]
          first | refine wp_if_eqN (t := 50) (ck_get kk_Mc_refusalOf 15 rfl) (by decide) (by omega) (fun hc32 => ?_) (fun hc32 => ?_) | refine wp_if_eq (t := 50) (ck_get kk_Mc_refusalOf 15 rfl) (by decide) (fun hc32 => ?_) (fun hc32 => ?_)
          · exact absurd hc32 (by decide)
          · refine wp_iload_n rfl (ck_get kk_Mc_refusalOf 16 rfl) ?_
            refine wp_cS1i (ck_get kk_Mc_refusalOf 17 rfl) ml_Mc_134 (by omega) (Nat.le_of_ble_eq_true rfl) (Ci.to (c_isKey) ?_)
            rintro _ M1 ⟨rfl, eqm1⟩
            obtain rfl := eqm1.symm
            rw [b2]
            first | refine wp_if_eqN (t := 50) (ck_get kk_Mc_refusalOf 18 rfl) (by decide) (by omega) (fun hc39 => ?_) (fun hc39 => ?_) | refine wp_if_eq (t := 50) (ck_get kk_Mc_refusalOf 18 rfl) (by decide) (fun hc39 => ?_) (fun hc39 => ?_)
            · exact absurd hc39 (by decide)
            · refine wp_iload rfl (ck_get kk_Mc_refusalOf 19 rfl) ?_
              refine wp_cS1i (ck_get kk_Mc_refusalOf 20 rfl) ml_Mc_134 (by omega) (Nat.le_of_ble_eq_true rfl) (Ci.to (c_isKey) ?_)
              rintro _ M1 ⟨rfl, eqm1⟩
              obtain rfl := eqm1.symm
              rw [b3]
              first | refine wp_if_neN (t := 52) (ck_get kk_Mc_refusalOf 21 rfl) (by decide) (by omega) (fun hc47 => ?_) (fun hc47 => ?_) | refine wp_if_ne (t := 52) (ck_get kk_Mc_refusalOf 21 rfl) (by decide) (fun hc47 => ?_) (fun hc47 => ?_)
              · refine wp_iload_n rfl (ck_get kk_Mc_refusalOf 24 rfl) ?_
                refine wp_iconst (v := nI 1) (by decide) (ck_get kk_Mc_refusalOf 25 rfl) ?_
                first | refine wp_icmp_neN (t := 74) (ck_get kk_Mc_refusalOf 26 rfl) (by decide) (by omega) (by omega) (fun hc54 => ?_) (fun hc54 => ?_) | refine wp_icmp_ne (t := 74) (ck_get kk_Mc_refusalOf 26 rfl) (by decide) (fun hc54 => ?_) (fun hc54 => ?_)
                · refine wp_aload_n rfl (ck_get kk_Mc_refusalOf 37 rfl) ?_
                  refine wp_getR (ck_get kk_Mc_refusalOf 38 rfl) fl_Mc_12 (by assumption) (by assumption) ?_
                  refine wp_getR (ck_get kk_Mc_refusalOf 39 rfl) fl_Mc_107 (by assumption) (by assumption) ?_
                  refine wp_getR (ck_get kk_Mc_refusalOf 40 rfl) fl_Mc_110 (by assumption) (by assumption) ?_
                  refine wp_iload_n rfl (ck_get kk_Mc_refusalOf 41 rfl) ?_
                  refine wp_aald (ck_get kk_Mc_refusalOf 42 rfl) (by assumption) (ixk_nI (k := t') (by omega) (by omega)) (by assumption) ?_
                  refine wp_astore (ck_get kk_Mc_refusalOf 43 rfl) (by decide) rfl ?_
                  refine wp_iload_n rfl (ck_get kk_Mc_refusalOf 44 rfl) ?_
                  refine wp_iconst (v := nI 2) (by decide) (ck_get kk_Mc_refusalOf 45 rfl) ?_
                  first | refine wp_icmp_neN (t := 115) (ck_get kk_Mc_refusalOf 46 rfl) (by decide) (by omega) (by omega) (fun hc90 => ?_) (fun hc90 => ?_) | refine wp_icmp_ne (t := 115) (ck_get kk_Mc_refusalOf 46 rfl) (by decide) (fun hc90 => ?_) (fun hc90 => ?_)
                  · omega
                  · refine wp_aload rfl (ck_get kk_Mc_refusalOf 47 rfl) ?_
                    refine wp_getR (ck_get kk_Mc_refusalOf 48 rfl) fl_Mc_131 (by assumption) (by assumption) ?_
                    refine wp_aload rfl (ck_get kk_Mc_refusalOf 49 rfl) ?_
                    refine wp_getIv (v := nI (tSt (ws.2 t')).length) (ck_get kk_Mc_refusalOf 50 rfl) fl_Mc_114 (by assumption) (hte.1) ?_
                    refine wp_iload_n rfl (ck_get kk_Mc_refusalOf 51 rfl) ?_
                    refine wp_cS3i (ck_get kk_Mc_refusalOf 52 rfl) ml_Mc_137 (by omega) (Nat.le_of_ble_eq_true rfl) (Ci.to (hpi) ?_)
                    rintro _ M1 ⟨rfl, eqm1⟩
                    obtain rfl := eqm1.symm
                    first | refine wp_if_neN (t := 115) (ck_get kk_Mc_refusalOf 53 rfl) (by decide) (by omega) (fun hc107 => ?_) (fun hc107 => ?_) | refine wp_if_ne (t := 115) (ck_get kk_Mc_refusalOf 53 rfl) (by decide) (fun hc107 => ?_) (fun hc107 => ?_)
                    · omega
                    · refine wp_bipush (v := (-3)) (by decide) (ck_get kk_Mc_refusalOf 54 rfl) ?_
                      refine wp_goto (t := 116) (ck_get kk_Mc_refusalOf 55 rfl) (by decide) ?_
                      refine wp_ireturn (ck_get kk_Mc_refusalOf 57 rfl) rfl rfl ⟨_, rfl, ?_⟩
                      exact ⟨rfl, rfl⟩
                · omega
              · exact absurd hc47 (by decide)
        · omega
      · rw [if_neg hd]
        refine wp_iload_n rfl (ck_get kk_Mc_refusalOf 0 rfl) ?_
        refine wp_iconst (v := nI 3) (by decide) (ck_get kk_Mc_refusalOf 1 rfl) ?_
        first | refine wp_icmp_neN (t := 28) (ck_get kk_Mc_refusalOf 2 rfl) (by decide) (by omega) (by omega) (fun hc2 => ?_) (fun hc2 => ?_) | refine wp_icmp_ne (t := 28) (ck_get kk_Mc_refusalOf 2 rfl) (by decide) (fun hc2 => ?_) (fun hc2 => ?_)
        · refine wp_iload_n rfl (ck_get kk_Mc_refusalOf 13 rfl) ?_
          refine wp_cS1i (ck_get kk_Mc_refusalOf 14 rfl) ml_Mc_103 (by omega) (Nat.le_of_ble_eq_true rfl) (Ci.to (c_isTenant) ?_)
          rintro _ M1 ⟨rfl, eqm1⟩
          obtain rfl := eqm1.symm
          rw [b1]
          first | refine wp_if_eqN (t := 50) (ck_get kk_Mc_refusalOf 15 rfl) (by decide) (by omega) (fun hc32 => ?_) (fun hc32 => ?_) | refine wp_if_eq (t := 50) (ck_get kk_Mc_refusalOf 15 rfl) (by decide) (fun hc32 => ?_) (fun hc32 => ?_)
          · exact absurd hc32 (by decide)
          · refine wp_iload_n rfl (ck_get kk_Mc_refusalOf 16 rfl) ?_
            refine wp_cS1i (ck_get kk_Mc_refusalOf 17 rfl) ml_Mc_134 (by omega) (Nat.le_of_ble_eq_true rfl) (Ci.to (c_isKey) ?_)
            rintro _ M1 ⟨rfl, eqm1⟩
            obtain rfl := eqm1.symm
            rw [b2]
            first | refine wp_if_eqN (t := 50) (ck_get kk_Mc_refusalOf 18 rfl) (by decide) (by omega) (fun hc39 => ?_) (fun hc39 => ?_) | refine wp_if_eq (t := 50) (ck_get kk_Mc_refusalOf 18 rfl) (by decide) (fun hc39 => ?_) (fun hc39 => ?_)
            · exact absurd hc39 (by decide)
            · refine wp_iload rfl (ck_get kk_Mc_refusalOf 19 rfl) ?_
              refine wp_cS1i (ck_get kk_Mc_refusalOf 20 rfl) ml_Mc_134 (by omega) (Nat.le_of_ble_eq_true rfl) (Ci.to (c_isKey) ?_)
              rintro _ M1 ⟨rfl, eqm1⟩
              obtain rfl := eqm1.symm
              rw [b3]
              first | refine wp_if_neN (t := 52) (ck_get kk_Mc_refusalOf 21 rfl) (by decide) (by omega) (fun hc47 => ?_) (fun hc47 => ?_) | refine wp_if_ne (t := 52) (ck_get kk_Mc_refusalOf 21 rfl) (by decide) (fun hc47 => ?_) (fun hc47 => ?_)
              · refine wp_iload_n rfl (ck_get kk_Mc_refusalOf 24 rfl) ?_
                refine wp_iconst (v := nI 1) (by decide) (ck_get kk_Mc_refusalOf 25 rfl) ?_
                first | refine wp_icmp_neN (t := 74) (ck_get kk_Mc_refusalOf 26 rfl) (by decide) (by omega) (by omega) (fun hc54 => ?_) (fun hc54 => ?_) | refine wp_icmp_ne (t := 74) (ck_get kk_Mc_refusalOf 26 rfl) (by decide) (fun hc54 => ?_) (fun hc54 => ?_)
                · skip
                  refine wp_aload_n rfl (ck_get kk_Mc_refusalOf 37 rfl) ?_
                  refine wp_getR (ck_get kk_Mc_refusalOf 38 rfl) fl_Mc_12 (by assumption) (by assumption) ?_
                  refine wp_getR (ck_get kk_Mc_refusalOf 39 rfl) fl_Mc_107 (by assumption) (by assumption) ?_
                  refine wp_getR (ck_get kk_Mc_refusalOf 40 rfl) fl_Mc_110 (by assumption) (by assumption) ?_
                  refine wp_iload_n rfl (ck_get kk_Mc_refusalOf 41 rfl) ?_
                  refine wp_aald (ck_get kk_Mc_refusalOf 42 rfl) (by assumption) (ixk_nI (k := t') (by omega) (by omega)) (by assumption) ?_
                  refine wp_astore (ck_get kk_Mc_refusalOf 43 rfl) (by decide) rfl ?_
                  refine wp_iload_n rfl (ck_get kk_Mc_refusalOf 44 rfl) ?_
                  refine wp_iconst (v := nI 2) (by decide) (ck_get kk_Mc_refusalOf 45 rfl) ?_
                  first | refine wp_icmp_neN (t := 115) (ck_get kk_Mc_refusalOf 46 rfl) (by decide) (by omega) (by omega) (fun hc90 => ?_) (fun hc90 => ?_) | refine wp_icmp_ne (t := 115) (ck_get kk_Mc_refusalOf 46 rfl) (by decide) (fun hc90 => ?_) (fun hc90 => ?_)
                  · refine wp_iconst (v := nI 0) (by decide) (ck_get kk_Mc_refusalOf 56 rfl) ?_
                    refine wp_ireturn (ck_get kk_Mc_refusalOf 57 rfl) rfl rfl ⟨_, rfl, ?_⟩
                    exact ⟨rfl, rfl⟩
                  · refine wp_aload rfl (ck_get kk_Mc_refusalOf 47 rfl) ?_
                    refine wp_getR (ck_get kk_Mc_refusalOf 48 rfl) fl_Mc_131 (by assumption) (by assumption) ?_
                    refine wp_aload rfl (ck_get kk_Mc_refusalOf 49 rfl) ?_
                    refine wp_getIv (v := nI (tSt (ws.2 t')).length) (ck_get kk_Mc_refusalOf 50 rfl) fl_Mc_114 (by assumption) (hte.1) ?_
                    refine wp_iload_n rfl (ck_get kk_Mc_refusalOf 51 rfl) ?_
                    refine wp_cS3i (ck_get kk_Mc_refusalOf 52 rfl) ml_Mc_137 (by omega) (Nat.le_of_ble_eq_true rfl) (Ci.to (hpi) ?_)
                    rintro _ M1 ⟨rfl, eqm1⟩
                    obtain rfl := eqm1.symm
                    first | refine wp_if_neN (t := 115) (ck_get kk_Mc_refusalOf 53 rfl) (by decide) (by omega) (fun hc107 => ?_) (fun hc107 => ?_) | refine wp_if_ne (t := 115) (ck_get kk_Mc_refusalOf 53 rfl) (by decide) (fun hc107 => ?_) (fun hc107 => ?_)
                    · refine wp_iconst (v := nI 0) (by decide) (ck_get kk_Mc_refusalOf 56 rfl) ?_
                      refine wp_ireturn (ck_get kk_Mc_refusalOf 57 rfl) rfl rfl ⟨_, rfl, ?_⟩
                      exact ⟨rfl, rfl⟩
                    · omega
                · refine wp_iload rfl (ck_get kk_Mc_refusalOf 27 rfl) ?_
                  refine wp_iload_n rfl (ck_get kk_Mc_refusalOf 28 rfl) ?_
                  first | refine wp_icmp_ltN (t := 72) (ck_get kk_Mc_refusalOf 29 rfl) (by decide) (by omega) (by omega) (fun hc60 => ?_) (fun hc60 => ?_) | refine wp_icmp_lt (t := 72) (ck_get kk_Mc_refusalOf 29 rfl) (by decide) (fun hc60 => ?_) (fun hc60 => ?_)
                  · omega
                  · refine wp_iload rfl (ck_get kk_Mc_refusalOf 30 rfl) ?_
                    refine wp_iload_n rfl (ck_get kk_Mc_refusalOf 31 rfl) ?_
                    first | refine wp_isubN (ck_get kk_Mc_refusalOf 32 rfl) (by omega) ?_ | refine wp_isub (ck_get kk_Mc_refusalOf 32 rfl) ?_
                    refine wp_bipush (v := nI 32) (by decide) (ck_get kk_Mc_refusalOf 33 rfl) ?_
                    first | refine wp_icmp_ltN (t := 74) (ck_get kk_Mc_refusalOf 34 rfl) (by decide) (by omega) (by omega) (fun hc69 => ?_) (fun hc69 => ?_) | refine wp_icmp_lt (t := 74) (ck_get kk_Mc_refusalOf 34 rfl) (by decide) (fun hc69 => ?_) (fun hc69 => ?_)
                    · skip
                      refine wp_aload_n rfl (ck_get kk_Mc_refusalOf 37 rfl) ?_
                      refine wp_getR (ck_get kk_Mc_refusalOf 38 rfl) fl_Mc_12 (by assumption) (by assumption) ?_
                      refine wp_getR (ck_get kk_Mc_refusalOf 39 rfl) fl_Mc_107 (by assumption) (by assumption) ?_
                      refine wp_getR (ck_get kk_Mc_refusalOf 40 rfl) fl_Mc_110 (by assumption) (by assumption) ?_
                      refine wp_iload_n rfl (ck_get kk_Mc_refusalOf 41 rfl) ?_
                      refine wp_aald (ck_get kk_Mc_refusalOf 42 rfl) (by assumption) (ixk_nI (k := t') (by omega) (by omega)) (by assumption) ?_
                      refine wp_astore (ck_get kk_Mc_refusalOf 43 rfl) (by decide) rfl ?_
                      refine wp_iload_n rfl (ck_get kk_Mc_refusalOf 44 rfl) ?_
                      refine wp_iconst (v := nI 2) (by decide) (ck_get kk_Mc_refusalOf 45 rfl) ?_
                      first | refine wp_icmp_neN (t := 115) (ck_get kk_Mc_refusalOf 46 rfl) (by decide) (by omega) (by omega) (fun hc90 => ?_) (fun hc90 => ?_) | refine wp_icmp_ne (t := 115) (ck_get kk_Mc_refusalOf 46 rfl) (by decide) (fun hc90 => ?_) (fun hc90 => ?_)
                      · refine wp_iconst (v := nI 0) (by decide) (ck_get kk_Mc_refusalOf 56 rfl) ?_
                        refine wp_ireturn (ck_get kk_Mc_refusalOf 57 rfl) rfl rfl ⟨_, rfl, ?_⟩
                        exact ⟨rfl, rfl⟩
                      · refine wp_aload rfl (ck_get kk_Mc_refusalOf 47 rfl) ?_
                        refine wp_getR (ck_get kk_Mc_refusalOf 48 rfl) fl_Mc_131 (by assumption) (by assumption) ?_
                        refine wp_aload rfl (ck_get kk_Mc_refusalOf 49 rfl) ?_
                        refine wp_getIv (v := nI (tSt (ws.2 t')).length) (ck_get kk_Mc_refusalOf 50 rfl) fl_Mc_114 (by assumption) (hte.1) ?_
                        refine wp_iload_n rfl (ck_get kk_Mc_refusalOf 51 rfl) ?_
                        refine wp_cS3i (ck_get kk_Mc_refusalOf 52 rfl) ml_Mc_137 (by omega) (Nat.le_of_ble_eq_true rfl) (Ci.to (hpi) ?_)
                        rintro _ M1 ⟨rfl, eqm1⟩
                        obtain rfl := eqm1.symm
                        first | refine wp_if_neN (t := 115) (ck_get kk_Mc_refusalOf 53 rfl) (by decide) (by omega) (fun hc107 => ?_) (fun hc107 => ?_) | refine wp_if_ne (t := 115) (ck_get kk_Mc_refusalOf 53 rfl) (by decide) (fun hc107 => ?_) (fun hc107 => ?_)
                        · refine wp_iconst (v := nI 0) (by decide) (ck_get kk_Mc_refusalOf 56 rfl) ?_
                          refine wp_ireturn (ck_get kk_Mc_refusalOf 57 rfl) rfl rfl ⟨_, rfl, ?_⟩
                          exact ⟨rfl, rfl⟩
                        · omega
                    · omega
              · exact absurd hc47 (by decide)
        · omega
  · rw [if_neg h1]
    refine wp_iload_n rfl (ck_get kk_Mc_refusalOf 0 rfl) ?_
    refine wp_iconst (v := nI 3) (by decide) (ck_get kk_Mc_refusalOf 1 rfl) ?_
    first | refine wp_icmp_neN (t := 28) (ck_get kk_Mc_refusalOf 2 rfl) (by decide) (by omega) (by omega) (fun hc2 => ?_) (fun hc2 => ?_) | refine wp_icmp_ne (t := 28) (ck_get kk_Mc_refusalOf 2 rfl) (by decide) (fun hc2 => ?_) (fun hc2 => ?_)
    · refine wp_iload_n rfl (ck_get kk_Mc_refusalOf 13 rfl) ?_
      refine wp_cS1i (ck_get kk_Mc_refusalOf 14 rfl) ml_Mc_103 (by omega) (Nat.le_of_ble_eq_true rfl) (Ci.to (c_isTenant) ?_)
      rintro _ M1 ⟨rfl, eqm1⟩
      obtain rfl := eqm1.symm
      first | refine wp_if_eqN (t := 50) (ck_get kk_Mc_refusalOf 15 rfl) (by decide) (by omega) (fun hc32 => ?_) (fun hc32 => ?_) | refine wp_if_eq (t := 50) (ck_get kk_Mc_refusalOf 15 rfl) (by decide) (fun hc32 => ?_) (fun hc32 => ?_)
      · refine wp_iconst (v := (-1)) (by decide) (ck_get kk_Mc_refusalOf 22 rfl) ?_
        refine wp_ireturn (ck_get kk_Mc_refusalOf 23 rfl) rfl rfl ⟨_, rfl, ?_⟩
        exact ⟨rfl, rfl⟩
      · refine wp_iload_n rfl (ck_get kk_Mc_refusalOf 16 rfl) ?_
        refine wp_cS1i (ck_get kk_Mc_refusalOf 17 rfl) ml_Mc_134 (by omega) (Nat.le_of_ble_eq_true rfl) (Ci.to (c_isKey) ?_)
        rintro _ M1 ⟨rfl, eqm1⟩
        obtain rfl := eqm1.symm
        first | refine wp_if_eqN (t := 50) (ck_get kk_Mc_refusalOf 18 rfl) (by decide) (by omega) (fun hc39 => ?_) (fun hc39 => ?_) | refine wp_if_eq (t := 50) (ck_get kk_Mc_refusalOf 18 rfl) (by decide) (fun hc39 => ?_) (fun hc39 => ?_)
        · refine wp_iconst (v := (-1)) (by decide) (ck_get kk_Mc_refusalOf 22 rfl) ?_
          refine wp_ireturn (ck_get kk_Mc_refusalOf 23 rfl) rfl rfl ⟨_, rfl, ?_⟩
          exact ⟨rfl, rfl⟩
        · refine wp_iload rfl (ck_get kk_Mc_refusalOf 19 rfl) ?_
          refine wp_cS1i (ck_get kk_Mc_refusalOf 20 rfl) ml_Mc_134 (by omega) (Nat.le_of_ble_eq_true rfl) (Ci.to (c_isKey) ?_)
          rintro _ M1 ⟨rfl, eqm1⟩
          obtain rfl := eqm1.symm
          first | refine wp_if_neN (t := 52) (ck_get kk_Mc_refusalOf 21 rfl) (by decide) (by omega) (fun hc47 => ?_) (fun hc47 => ?_) | refine wp_if_ne (t := 52) (ck_get kk_Mc_refusalOf 21 rfl) (by decide) (fun hc47 => ?_) (fun hc47 => ?_)
          · exact absurd ⟨bI_1 hc32, bI_1 hc39, bI_1 hc47⟩ h1
          · refine wp_iconst (v := (-1)) (by decide) (ck_get kk_Mc_refusalOf 22 rfl) ?_
            refine wp_ireturn (ck_get kk_Mc_refusalOf 23 rfl) rfl rfl ⟨_, rfl, ?_⟩
            exact ⟨rfl, rfl⟩
    · omega
end ACC
