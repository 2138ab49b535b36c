/-! ===== what is done, by the model ===== -/
def FrU (F F2 : Nat → Int32) : Prop := (∀ k, k < 25 ∨ 29 ≤ k → k ≠ 36 → F2 k = F k) ∧ ∃ b, F2 27 = bI b
theorem FrU.trans {F F2 F3 : Nat → Int32} (h : FrU F F2) (h2 : FrU F2 F3) : FrU F F3 := ⟨fun k hk hn => (h2.1 k hk hn).trans (h.1 k hk hn), h2.2⟩
theorem FrO.u {F F2 : Nat → Int32} (h : FrO F F2) : FrU F F2 := ⟨fun k hk _ => h.1 k hk, h.2⟩
theorem FrU.up {F : Nat → Int32} {v : Int32} (hb : ∃ b, F 27 = bI b) : FrU F (up1 F 36 v) := ⟨fun k _ hn => up1_ne hn, by rw [up1_ne (by omega)]; exact hb⟩
def mkQ (res : (Nat → Int32) → Int32 × Int32) (md salt : Nat) (M : Mem) (o : Nat) (U : Nat → Int32) (UP : Nat → Int64) (K : Nat → Int32) (P : Nat → Int64) (A F : Nat → Int32) (n : Nat) (u : UF) (kd : Nat) (ws : WS) (t a b x : Int32) (M2 : Mem) : Prop :=
  (¬ acV kd ws t a b = 0 ∧ x = acV kd ws t a b ∧ M2 = wkM (ubM M o U UP) o K P A F) ∨
  (acV kd ws t a b = 0 ∧ x = nI (acW res md salt kd ws t.toNatClampNeg a.toNatClampNeg b.toNatClampNeg).1 ∧ ∃ U2 UP2 K2 P2 A2 F2, M2 = wkM (ubM M o U2 UP2) o K2 P2 A2 F2 ∧ MwHas K2 P2 0 0 (acW res md salt kd ws t.toNatClampNeg a.toNatClampNeg b.toNatClampNeg).2 ∧ MuHas U2 UP2 (nsz n) (psU n u (kd, ws)) ∧ (∀ x, 369 ≤ x → K2 x = K x) ∧ F2 36 = nI (nsz n) ∧ FrU F F2)
section MKP
variable {g : Gl} {M : Mem} {o : Nat} {K A F U : Nat → Int32} {P UP : Nat → Int64} {res : (Nat → Int32) → Int32 × Int32} {md salt n B : Nat} {u : UF} {ws : WS}
theorem m_readsKept {t a : Int32} (hM : MoAt (mT M) (mR M) o) (hs : MwHas K P 0 0 ws) (hT : WOK ws) (hU : MuHas U UP n u) (hO : UOK n u B) (h36 : F 36 = nI n) (hN : MoN K res md salt) (hb : ∃ b, F 27 = bI b) : Ci g Y_Mo_readsKept 130 [.ref o, .int t, .int a] (wkM (ubM M o U UP) o K P A F) (fun x M2 => mkQ res md salt M o U UP K P A F n u 0 ws t a a x M2) := by
  have to0 := hM.1
  refine cw_entry 0 pf_Mo_readsKept rfl ?_
  by_cases h1 : inB t 4 = true ∧ inB a 1000 = true
  · have hv : acV 0 ws t a a = 0 := by unfold acV; rw [if_neg (by omega), if_pos ⟨h1.1, h1.2, h1.2⟩, if_neg (by omega), if_neg (by omega)]
    obtain ⟨b1, b2⟩ := h1
    obtain ⟨t', ht, rfl⟩ := inB_t b1 (by omega)
    obtain ⟨k, hk1, rfl⟩ := inB_t b2 (by omega)
    refine wp_iload_n rfl (ck_get kk_Mo_readsKept 0 rfl) ?_
    refine wp_cS1i (ck_get kk_Mo_readsKept 1 rfl) ml_Mo_152 (by omega) (Nat.le_of_ble_eq_true rfl) (Ci.to (m_isTenant) ?_)
    rintro _ M1 ⟨rfl, eqm1⟩
    obtain rfl := eqm1.symm
    rw [b1]
    first | refine wp_if_eqN (t := 14) (ck_get kk_Mo_readsKept 2 rfl) (by decide) (by omega) (fun hc4 => ?_) (fun hc4 => ?_) | refine wp_if_eq (t := 14) (ck_get kk_Mo_readsKept 2 rfl) (by decide) (fun hc4 => ?_) (fun hc4 => ?_)
    · exact absurd hc4 (by decide)
    · refine wp_iload_n rfl (ck_get kk_Mo_readsKept 3 rfl) ?_
      refine wp_cS1i (ck_get kk_Mo_readsKept 4 rfl) ml_Mo_156 (by omega) (Nat.le_of_ble_eq_true rfl) (Ci.to (m_isKey) ?_)
      rintro _ M1 ⟨rfl, eqm1⟩
      obtain rfl := eqm1.symm
      rw [b2]
      first | refine wp_if_neN (t := 16) (ck_get kk_Mo_readsKept 5 rfl) (by decide) (by omega) (fun hc11 => ?_) (fun hc11 => ?_) | refine wp_if_ne (t := 16) (ck_get kk_Mo_readsKept 5 rfl) (by decide) (fun hc11 => ?_) (fun hc11 => ?_)
      · refine wp_aload_n rfl (ck_get kk_Mo_readsKept 8 rfl) ?_
        refine wp_iconst (v := nI 0) (by decide) (ck_get kk_Mo_readsKept 9 rfl) ?_
        refine wp_cV1v (ck_get kk_Mo_readsKept 10 rfl) ml_Mo_379 (by omega) (Nat.le_of_ble_eq_true rfl) (by assumption) (Cv.to (m_keepsT (k := 0) hM h36 hU hO hs hT) ?_)
        rintro M₁ ⟨U2, UP2, rfl, hU2⟩
        refine wp_aload_n rfl (ck_get kk_Mo_readsKept 11 rfl) ?_
        refine wp_iload_n rfl (ck_get kk_Mo_readsKept 12 rfl) ?_
        refine wp_iload_n rfl (ck_get kk_Mo_readsKept 13 rfl) ?_
        refine wp_cV2i (ck_get kk_Mo_readsKept 14 rfl) ml_Mo_185 (by omega) (Nat.le_of_ble_eq_true rfl) (by assumption) (Ci.to (m_readA (by exact hM) hs hT ht hk1 hN (FrU.up hb).2) ?_)
        rintro x₁ M₂ ⟨hx1, K2, P2, A2, F2, rfl, hs2, hK2, hF2⟩
        refine wp_ireturn (ck_get kk_Mo_readsKept 15 rfl) rfl rfl ⟨_, rfl, ?_⟩
        refine Or.inr ⟨hv, ?_, U2, UP2, K2, P2, A2, F2, rfl, ?_, hU2, hK2, ?_, (FrU.up hb).trans hF2.u⟩
        · rw [nI_clamp (by omega), nI_clamp (by omega)]; exact hx1
        · rw [nI_clamp (by omega), nI_clamp (by omega)]; exact hs2
        · rw [hF2.1 36 (by omega), up1_eq]
      · exact absurd hc11 (by decide)
  · have hv : acV 0 ws t a a = -1 := by unfold acV; rw [if_neg (by omega), if_neg (fun q => h1 ⟨q.1, q.2.1⟩)]
    have hv0 : ¬ acV 0 ws t a a = 0 := by rw [hv]; decide
    refine wp_iload_n rfl (ck_get kk_Mo_readsKept 0 rfl) ?_
    refine wp_cS1i (ck_get kk_Mo_readsKept 1 rfl) ml_Mo_152 (by omega) (Nat.le_of_ble_eq_true rfl) (Ci.to (m_isTenant) ?_)
    rintro _ M1 ⟨rfl, eqm1⟩
    obtain rfl := eqm1.symm
    first | refine wp_if_eqN (t := 14) (ck_get kk_Mo_readsKept 2 rfl) (by decide) (by omega) (fun hc4 => ?_) (fun hc4 => ?_) | refine wp_if_eq (t := 14) (ck_get kk_Mo_readsKept 2 rfl) (by decide) (fun hc4 => ?_) (fun hc4 => ?_)
    · refine wp_iconst (v := (-1)) (by decide) (ck_get kk_Mo_readsKept 6 rfl) ?_
      refine wp_ireturn (ck_get kk_Mo_readsKept 7 rfl) rfl rfl ⟨_, rfl, ?_⟩
      exact Or.inl ⟨hv0, hv.symm, rfl⟩
    · refine wp_iload_n rfl (ck_get kk_Mo_readsKept 3 rfl) ?_
      refine wp_cS1i (ck_get kk_Mo_readsKept 4 rfl) ml_Mo_156 (by omega) (Nat.le_of_ble_eq_true rfl) (Ci.to (m_isKey) ?_)
      rintro _ M1 ⟨rfl, eqm1⟩
      obtain rfl := eqm1.symm
      first | refine wp_if_neN (t := 16) (ck_get kk_Mo_readsKept 5 rfl) (by decide) (by omega) (fun hc11 => ?_) (fun hc11 => ?_) | refine wp_if_ne (t := 16) (ck_get kk_Mo_readsKept 5 rfl) (by decide) (fun hc11 => ?_) (fun hc11 => ?_)
      · exact absurd ⟨bI_1 hc4, bI_1 hc11⟩ h1
      · refine wp_iconst (v := (-1)) (by decide) (ck_get kk_Mo_readsKept 6 rfl) ?_
        refine wp_ireturn (ck_get kk_Mo_readsKept 7 rfl) rfl rfl ⟨_, rfl, ?_⟩
        exact Or.inl ⟨hv0, hv.symm, rfl⟩
theorem m_dropsKept {t a : Int32} (hM : MoAt (mT M) (mR M) o) (hs : MwHas K P 0 0 ws) (hT : WOK ws) (hU : MuHas U UP n u) (hO : UOK n u B) (h36 : F 36 = nI n) (hb : ∃ b, F 27 = bI b) : Ci g Y_Mo_dropsKept 130 [.ref o, .int t, .int a] (wkM (ubM M o U UP) o K P A F) (fun x M2 => mkQ res md salt M o U UP K P A F n u 2 ws t a a x M2) := by
  have to0 := hM.1
  refine cw_entry 1 pf_Mo_dropsKept rfl ?_
  by_cases h1 : inB t 4 = true ∧ inB a 1000 = true
  · obtain ⟨b1, b2⟩ := h1
    obtain ⟨t', ht, rfl⟩ := inB_t b1 (by omega)
    obtain ⟨k, hk1, rfl⟩ := inB_t b2 (by omega)
    have hst := (hs.t (b := 0) (pb := 0) ht).1
    have hl24 := (hT.2 t' ht).1
    have hpl := posL_le (L := tSt (ws.2 t')) (k := k)
    have hv : acV 2 ws (nI t') (nI k) (nI k) = if posL (tSt (ws.2 t')) k = 0 then -3 else 0 := by
      unfold acV
      rw [if_neg (by omega), if_pos ⟨b1, b2, b2⟩, if_neg (by omega), nI_clamp (by omega), nI_clamp (by omega)]
      by_cases h0 : posL (tSt (ws.2 t')) k = 0
      · rw [if_pos ⟨rfl, h0⟩, if_pos h0]
      · rw [if_neg (fun q => h0 q.2), if_neg h0]
    by_cases h0 : posL (tSt (ws.2 t')) k = 0
    · rw [if_pos h0] at hv
      have hv0 : ¬ acV 2 ws (nI t') (nI k) (nI k) = 0 := by rw [hv]; decide
      refine wp_iload_n rfl (ck_get kk_Mo_dropsKept 0 rfl) ?_
      refine wp_cS1i (ck_get kk_Mo_dropsKept 1 rfl) ml_Mo_152 (by omega) (Nat.le_of_ble_eq_true rfl) (Ci.to (m_isTenant) ?_)
      rintro _ M1 ⟨rfl, eqm1⟩
      obtain rfl := eqm1.symm
      rw [b1]
      first | refine wp_if_eqN (t := 14) (ck_get kk_Mo_dropsKept 2 rfl) (by decide) (by omega) (fun hc4 => ?_) (fun hc4 => ?_) | refine wp_if_eq (t := 14) (ck_get kk_Mo_dropsKept 2 rfl) (by decide) (fun hc4 => ?_) (fun hc4 => ?_)
      · exact absurd hc4 (by decide)
      · refine wp_iload_n rfl (ck_get kk_Mo_dropsKept 3 rfl) ?_
        refine wp_cS1i (ck_get kk_Mo_dropsKept 4 rfl) ml_Mo_156 (by omega) (Nat.le_of_ble_eq_true rfl) (Ci.to (m_isKey) ?_)
        rintro _ M1 ⟨rfl, eqm1⟩
        obtain rfl := eqm1.symm
        rw [b2]
        first | refine wp_if_neN (t := 16) (ck_get kk_Mo_dropsKept 5 rfl) (by decide) (by omega) (fun hc11 => ?_) (fun hc11 => ?_) | refine wp_if_ne (t := 16) (ck_get kk_Mo_dropsKept 5 rfl) (by decide) (fun hc11 => ?_) (fun hc11 => ?_)
        · refine wp_aload_n rfl (ck_get kk_Mo_dropsKept 8 rfl) ?_
          refine wp_iload_n rfl (ck_get kk_Mo_dropsKept 9 rfl) ?_
          refine wp_iconst (v := nI 0) (by decide) (ck_get kk_Mo_dropsKept 10 rfl) ?_
          refine wp_iload_n rfl (ck_get kk_Mo_dropsKept 11 rfl) ?_
          refine wp_cV3i (ck_get kk_Mo_dropsKept 12 rfl) ml_Mo_159 (by omega) (Nat.le_of_ble_eq_true rfl) (by assumption) (Ci.to (m_place (L := tSt (ws.2 t')) (by exact hM) (by rw [wk_2]; exact hst) (by omega)) ?_)
          rintro _ M1 ⟨rfl, eqm1⟩
          obtain rfl := eqm1.symm
          refine wp_istore_n (ck_get kk_Mo_dropsKept 13 rfl) (by decide) rfl ?_
          refine wp_iload_n rfl (ck_get kk_Mo_dropsKept 14 rfl) ?_
          first | refine wp_if_neN (t := 31) (ck_get kk_Mo_dropsKept 15 rfl) (by decide) (by omega) (fun hc25 => ?_) (fun hc25 => ?_) | refine wp_if_ne (t := 31) (ck_get kk_Mo_dropsKept 15 rfl) (by decide) (fun hc25 => ?_) (fun hc25 => ?_)
          · omega
          · refine wp_bipush (v := (-3)) (by decide) (ck_get kk_Mo_dropsKept 16 rfl) ?_
            refine wp_ireturn (ck_get kk_Mo_dropsKept 17 rfl) rfl rfl ⟨_, rfl, ?_⟩
            exact Or.inl ⟨hv0, hv.symm, rfl⟩
        · exact absurd hc11 (by decide)
    · rw [if_neg h0] at hv
      refine wp_iload_n rfl (ck_get kk_Mo_dropsKept 0 rfl) ?_
      refine wp_cS1i (ck_get kk_Mo_dropsKept 1 rfl) ml_Mo_152 (by omega) (Nat.le_of_ble_eq_true rfl) (Ci.to (m_isTenant) ?_)
      rintro _ M1 ⟨rfl, eqm1⟩
      obtain rfl := eqm1.symm
      rw [b1]
      first | refine wp_if_eqN (t := 14) (ck_get kk_Mo_dropsKept 2 rfl) (by decide) (by omega) (fun hc4 => ?_) (fun hc4 => ?_) | refine wp_if_eq (t := 14) (ck_get kk_Mo_dropsKept 2 rfl) (by decide) (fun hc4 => ?_) (fun hc4 => ?_)
      · exact absurd hc4 (by decide)
      · refine wp_iload_n rfl (ck_get kk_Mo_dropsKept 3 rfl) ?_
        refine wp_cS1i (ck_get kk_Mo_dropsKept 4 rfl) ml_Mo_156 (by omega) (Nat.le_of_ble_eq_true rfl) (Ci.to (m_isKey) ?_)
        rintro _ M1 ⟨rfl, eqm1⟩
        obtain rfl := eqm1.symm
        rw [b2]
        first | refine wp_if_neN (t := 16) (ck_get kk_Mo_dropsKept 5 rfl) (by decide) (by omega) (fun hc11 => ?_) (fun hc11 => ?_) | refine wp_if_ne (t := 16) (ck_get kk_Mo_dropsKept 5 rfl) (by decide) (fun hc11 => ?_) (fun hc11 => ?_)
        · refine wp_aload_n rfl (ck_get kk_Mo_dropsKept 8 rfl) ?_
          refine wp_iload_n rfl (ck_get kk_Mo_dropsKept 9 rfl) ?_
          refine wp_iconst (v := nI 0) (by decide) (ck_get kk_Mo_dropsKept 10 rfl) ?_
          refine wp_iload_n rfl (ck_get kk_Mo_dropsKept 11 rfl) ?_
          refine wp_cV3i (ck_get kk_Mo_dropsKept 12 rfl) ml_Mo_159 (by omega) (Nat.le_of_ble_eq_true rfl) (by assumption) (Ci.to (m_place (L := tSt (ws.2 t')) (by exact hM) (by rw [wk_2]; exact hst) (by omega)) ?_)
          rintro _ M1 ⟨rfl, eqm1⟩
          obtain rfl := eqm1.symm
          refine wp_istore_n (ck_get kk_Mo_dropsKept 13 rfl) (by decide) rfl ?_
          refine wp_iload_n rfl (ck_get kk_Mo_dropsKept 14 rfl) ?_
          first | refine wp_if_neN (t := 31) (ck_get kk_Mo_dropsKept 15 rfl) (by decide) (by omega) (fun hc25 => ?_) (fun hc25 => ?_) | refine wp_if_ne (t := 31) (ck_get kk_Mo_dropsKept 15 rfl) (by decide) (fun hc25 => ?_) (fun hc25 => ?_)
          · refine wp_aload_n rfl (ck_get kk_Mo_dropsKept 18 rfl) ?_
            refine wp_iconst (v := nI 2) (by decide) (ck_get kk_Mo_dropsKept 19 rfl) ?_
            refine wp_cV1v (ck_get kk_Mo_dropsKept 20 rfl) ml_Mo_379 (by omega) (Nat.le_of_ble_eq_true rfl) (by assumption) (Cv.to (m_keepsT (k := 2) hM h36 hU hO hs hT) ?_)
            rintro M₁ ⟨U2, UP2, rfl, hU2⟩
            refine wp_aload_n rfl (ck_get kk_Mo_dropsKept 21 rfl) ?_
            refine wp_iload_n rfl (ck_get kk_Mo_dropsKept 22 rfl) ?_
            refine wp_iload_n rfl (ck_get kk_Mo_dropsKept 23 rfl) ?_
            refine wp_cV2v (ck_get kk_Mo_dropsKept 24 rfl) ml_Mo_382 (by omega) (Nat.le_of_ble_eq_true rfl) (by assumption) (Cv.to (m_dropT (by exact hM) hs hT ht h0) ?_)
            rintro M₂ ⟨K2, rfl, hs2, hK2⟩
            refine wp_iload_n rfl (ck_get kk_Mo_dropsKept 25 rfl) ?_
            refine wp_ireturn (ck_get kk_Mo_dropsKept 26 rfl) rfl rfl ⟨_, rfl, ?_⟩
            refine Or.inr ⟨hv, ?_, U2, UP2, K2, P, A, _, rfl, ?_, hU2, hK2, up1_eq, FrU.up hb⟩
            · rw [nI_clamp (by omega), nI_clamp (by omega)]; rfl
            · rw [nI_clamp (by omega), nI_clamp (by omega)]; exact hs2
          · omega
        · exact absurd hc11 (by decide)
  · have hv : acV 2 ws t a a = -1 := by unfold acV; rw [if_neg (by omega), if_neg (fun q => h1 ⟨q.1, q.2.1⟩)]
    have hv0 : ¬ acV 2 ws t a a = 0 := by rw [hv]; decide
    refine wp_iload_n rfl (ck_get kk_Mo_dropsKept 0 rfl) ?_
    refine wp_cS1i (ck_get kk_Mo_dropsKept 1 rfl) ml_Mo_152 (by omega) (Nat.le_of_ble_eq_true rfl) (Ci.to (m_isTenant) ?_)
    rintro _ M1 ⟨rfl, eqm1⟩
    obtain rfl := eqm1.symm
    first | refine wp_if_eqN (t := 14) (ck_get kk_Mo_dropsKept 2 rfl) (by decide) (by omega) (fun hc4 => ?_) (fun hc4 => ?_) | refine wp_if_eq (t := 14) (ck_get kk_Mo_dropsKept 2 rfl) (by decide) (fun hc4 => ?_) (fun hc4 => ?_)
    · refine wp_iconst (v := (-1)) (by decide) (ck_get kk_Mo_dropsKept 6 rfl) ?_
      refine wp_ireturn (ck_get kk_Mo_dropsKept 7 rfl) rfl rfl ⟨_, rfl, ?_⟩
      exact Or.inl ⟨hv0, hv.symm, rfl⟩
    · refine wp_iload_n rfl (ck_get kk_Mo_dropsKept 3 rfl) ?_
      refine wp_cS1i (ck_get kk_Mo_dropsKept 4 rfl) ml_Mo_156 (by omega) (Nat.le_of_ble_eq_true rfl) (Ci.to (m_isKey) ?_)
      rintro _ M1 ⟨rfl, eqm1⟩
      obtain rfl := eqm1.symm
      first | refine wp_if_neN (t := 16) (ck_get kk_Mo_dropsKept 5 rfl) (by decide) (by omega) (fun hc11 => ?_) (fun hc11 => ?_) | refine wp_if_ne (t := 16) (ck_get kk_Mo_dropsKept 5 rfl) (by decide) (fun hc11 => ?_) (fun hc11 => ?_)
      · exact absurd ⟨bI_1 hc4, bI_1 hc11⟩ h1
      · refine wp_iconst (v := (-1)) (by decide) (ck_get kk_Mo_dropsKept 6 rfl) ?_
        refine wp_ireturn (ck_get kk_Mo_dropsKept 7 rfl) rfl rfl ⟨_, rfl, ?_⟩
        exact Or.inl ⟨hv0, hv.symm, rfl⟩
theorem m_passesKept {t a b : Int32} (hM : MoAt (mT M) (mR M) o) (hs : MwHas K P 0 0 ws) (hT : WOK ws) (hB : tot ws < 2147483648) (hU : MuHas U UP n u) (hO : UOK n u B) (h36 : F 36 = nI n) (hb : ∃ b, F 27 = bI b) : Ci g Y_Mo_passesKept 130 [.ref o] (wkM (ubM M o U UP) o K P A F) (fun x M2 => mkQ res md salt M o U UP K P A F n u 3 ws t a b x M2) := by
  have hM0 := hM
  have hT1 := hT.1
  have to0 := hM.1
  have rfkept := MoAt.r hM 1 rfl
  have tfkept := MoAt.t hM 1 rfl
  have h368 : K 368 = nI ws.1 := by have := hs.1; rwa [Nat.zero_add] at this
  refine cw_entry 0 pf_Mo_passesKept rfl ?_
  by_cases h9 : ws.1 < 999
  · have hv : acV 3 ws t a b = 0 := by unfold acV; rw [if_pos rfl, if_pos h9]
    refine wp_aload_n rfl (ck_get kk_Mo_passesKept 0 rfl) ?_
    refine wp_getR (ck_get kk_Mo_passesKept 1 rfl) fl_Mo_28 (by assumption) (by assumption) ?_
    refine wp_sipush (v := nI 368) (by decide) (ck_get kk_Mo_passesKept 2 rfl) ?_
    refine wp_ialdv (v := nI ws.1) (ck_get kk_Mo_passesKept 3 rfl) (by assumption) (ixk_nI (k := 368) (by omega) (by omega)) (by rw [wk_2]; exact h368) ?_
    refine wp_sipush (v := nI 999) (by decide) (ck_get kk_Mo_passesKept 4 rfl) ?_
    first | refine wp_icmp_neN (t := 17) (ck_get kk_Mo_passesKept 5 rfl) (by decide) (by omega) (by omega) (fun hc11 => ?_) (fun hc11 => ?_) | refine wp_icmp_ne (t := 17) (ck_get kk_Mo_passesKept 5 rfl) (by decide) (fun hc11 => ?_) (fun hc11 => ?_)
    · refine wp_aload_n rfl (ck_get kk_Mo_passesKept 8 rfl) ?_
      refine wp_iconst (v := nI 3) (by decide) (ck_get kk_Mo_passesKept 9 rfl) ?_
      refine wp_cV1v (ck_get kk_Mo_passesKept 10 rfl) ml_Mo_379 (by omega) (Nat.le_of_ble_eq_true rfl) (by assumption) (Cv.to (m_keepsT (k := 3) hM0 h36 hU hO hs hT) ?_)
      rintro M₁ ⟨U2, UP2, rfl, hU2⟩
      refine wp_aload_n rfl (ck_get kk_Mo_passesKept 11 rfl) ?_
      refine wp_cV0i (ck_get kk_Mo_passesKept 12 rfl) ml_Mo_385 (by omega) (Nat.le_of_ble_eq_true rfl) (by assumption) (Ci.to (m_timeT (by exact hM0) hs hT hB) ?_)
      rintro x₁ M₂ ⟨hx1, K2, P2, rfl, hs2, hK2⟩
      refine wp_ireturn (ck_get kk_Mo_passesKept 13 rfl) rfl rfl ⟨_, rfl, ?_⟩
      exact Or.inr ⟨hv, hx1, U2, UP2, K2, P2, A, _, rfl, hs2, hU2, hK2, up1_eq, FrU.up hb⟩
    · omega
  · have hv : acV 3 ws t a b = -3 := by unfold acV; rw [if_pos rfl, if_neg h9]
    have hv0 : ¬ acV 3 ws t a b = 0 := by rw [hv]; decide
    refine wp_aload_n rfl (ck_get kk_Mo_passesKept 0 rfl) ?_
    refine wp_getR (ck_get kk_Mo_passesKept 1 rfl) fl_Mo_28 (by assumption) (by assumption) ?_
    refine wp_sipush (v := nI 368) (by decide) (ck_get kk_Mo_passesKept 2 rfl) ?_
    refine wp_ialdv (v := nI ws.1) (ck_get kk_Mo_passesKept 3 rfl) (by assumption) (ixk_nI (k := 368) (by omega) (by omega)) (by rw [wk_2]; exact h368) ?_
    refine wp_sipush (v := nI 999) (by decide) (ck_get kk_Mo_passesKept 4 rfl) ?_
    first | refine wp_icmp_neN (t := 17) (ck_get kk_Mo_passesKept 5 rfl) (by decide) (by omega) (by omega) (fun hc11 => ?_) (fun hc11 => ?_) | refine wp_icmp_ne (t := 17) (ck_get kk_Mo_passesKept 5 rfl) (by decide) (fun hc11 => ?_) (fun hc11 => ?_)
    · omega
    · refine wp_bipush (v := (-3)) (by decide) (ck_get kk_Mo_passesKept 6 rfl) ?_
      refine wp_ireturn (ck_get kk_Mo_passesKept 7 rfl) rfl rfl ⟨_, rfl, ?_⟩
      exact Or.inl ⟨hv0, hv.symm, rfl⟩
theorem m_loopsKept {t a b : Int32} (hM : MoAt (mT M) (mR M) o) (hs : MwHas K P 0 0 ws) (hT : WOK ws) (hU : MuHas U UP n u) (hO : UOK n u B) (h36 : F 36 = nI n) (hN : MoN K res md salt) (hb : ∃ b, F 27 = bI b) : Ci g Y_Mo_loopsKept 120 [.ref o, .int t, .int a, .int b] (wkM (ubM M o U UP) o K P A F) (fun x M2 => mkQ res md salt M o U UP K P A F n u 1 ws t a b x M2) := by
  have to0 := hM.1
  refine cw_entry 2 pf_Mo_loopsKept rfl ?_
  by_cases h1 : inB t 4 = true ∧ inB a 1000 = true ∧ inB b 1000 = true
  · obtain ⟨b1, b2, b3⟩ := h1
    obtain ⟨t', ht, rfl⟩ := inB_t b1 (by omega)
    obtain ⟨k, hk1, rfl⟩ := inB_t b2 (by omega)
    obtain ⟨k2, hk2, rfl⟩ := inB_t b3 (by omega)
    have hv : acV 1 ws (nI t') (nI k) (nI k2) = if k ≤ k2 ∧ k2 - k < 32 then 0 else -1 := by
      unfold acV
      rw [if_neg (by omega), if_pos ⟨b1, b2, b3⟩, nI_clamp (by omega), nI_clamp (by omega), nI_clamp (by omega)]
      by_cases h0 : k ≤ k2 ∧ k2 - k < 32
      · rw [if_neg (fun q => q.2 h0), if_pos h0, if_neg (by omega)]
      · rw [if_pos ⟨rfl, h0⟩, if_neg h0]
    have hli := m_lies (g := g) (M := wkM (ubM M o U UP) o K P A F) (v := nI k2 - nI k) (hi := 31) (by omega)
    rw [show 31 + 1 = 32 from rfl, inB_sub hk1 hk2] at hli
    by_cases h0 : k ≤ k2 ∧ k2 - k < 32
    · rw [if_pos h0] at hv
      rw [decide_eq_true h0] at hli
      refine wp_iload_n rfl (ck_get kk_Mo_loopsKept 0 rfl) ?_
      refine wp_cS1i (ck_get kk_Mo_loopsKept 1 rfl) ml_Mo_152 (by omega) (Nat.le_of_ble_eq_true rfl) (Ci.to (m_isTenant) ?_)
      rintro _ M1 ⟨rfl, eqm1⟩
      obtain rfl := eqm1.symm
      rw [b1]
      first | refine wp_if_eqN (t := 33) (ck_get kk_Mo_loopsKept 2 rfl) (by decide) (by omega) (fun hc4 => ?_) (fun hc4 => ?_) | refine wp_if_eq (t := 33) (ck_get kk_Mo_loopsKept 2 rfl) (by decide) (fun hc4 => ?_) (fun hc4 => ?_)
      · exact absurd hc4 (by decide)
      · refine wp_iload_n rfl (ck_get kk_Mo_loopsKept 3 rfl) ?_
        refine wp_cS1i (ck_get kk_Mo_loopsKept 4 rfl) ml_Mo_156 (by omega) (Nat.le_of_ble_eq_true rfl) (Ci.to (m_isKey) ?_)
        rintro _ M1 ⟨rfl, eqm1⟩
        obtain rfl := eqm1.symm
        rw [b2]
        first | refine wp_if_eqN (t := 33) (ck_get kk_Mo_loopsKept 5 rfl) (by decide) (by omega) (fun hc11 => ?_) (fun hc11 => ?_) | refine wp_if_eq (t := 33) (ck_get kk_Mo_loopsKept 5 rfl) (by decide) (fun hc11 => ?_) (fun hc11 => ?_)
        · exact absurd hc11 (by decide)
        · refine wp_iload_n rfl (ck_get kk_Mo_loopsKept 6 rfl) ?_
          refine wp_cS1i (ck_get kk_Mo_loopsKept 7 rfl) ml_Mo_156 (by omega) (Nat.le_of_ble_eq_true rfl) (Ci.to (m_isKey) ?_)
          rintro _ M1 ⟨rfl, eqm1⟩
          obtain rfl := eqm1.symm
          rw [b3]
          first | refine wp_if_eqN (t := 33) (ck_get kk_Mo_loopsKept 8 rfl) (by decide) (by omega) (fun hc18 => ?_) (fun hc18 => ?_) | refine wp_if_eq (t := 33) (ck_get kk_Mo_loopsKept 8 rfl) (by decide) (fun hc18 => ?_) (fun hc18 => ?_)
          · exact absurd hc18 (by decide)
          · refine wp_iload_n rfl (ck_get kk_Mo_loopsKept 9 rfl) ?_
            refine wp_iload_n rfl (ck_get kk_Mo_loopsKept 10 rfl) ?_
            refine wp_isub (ck_get kk_Mo_loopsKept 11 rfl) ?_
            refine wp_iconst (v := nI 0) (by decide) (ck_get kk_Mo_loopsKept 12 rfl) ?_
            refine wp_bipush (v := nI 31) (by decide) (ck_get kk_Mo_loopsKept 13 rfl) ?_
            refine wp_cS3i (ck_get kk_Mo_loopsKept 14 rfl) ml_Mo_18 (by omega) (Nat.le_of_ble_eq_true rfl) (Ci.to (hli) ?_)
            rintro _ M1 ⟨rfl, eqm1⟩
            obtain rfl := eqm1.symm
            first | refine wp_if_neN (t := 35) (ck_get kk_Mo_loopsKept 15 rfl) (by decide) (by omega) (fun hc30 => ?_) (fun hc30 => ?_) | refine wp_if_ne (t := 35) (ck_get kk_Mo_loopsKept 15 rfl) (by decide) (fun hc30 => ?_) (fun hc30 => ?_)
            · refine wp_aload_n rfl (ck_get kk_Mo_loopsKept 18 rfl) ?_
              refine wp_iconst (v := nI 1) (by decide) (ck_get kk_Mo_loopsKept 19 rfl) ?_
              refine wp_cV1v (ck_get kk_Mo_loopsKept 20 rfl) ml_Mo_379 (by omega) (Nat.le_of_ble_eq_true rfl) (by assumption) (Cv.to (m_keepsT (k := 1) hM h36 hU hO hs hT) ?_)
              rintro M₁ ⟨U2, UP2, rfl, hU2⟩
              refine wp_iconst (v := nI 0) (by decide) (ck_get kk_Mo_loopsKept 21 rfl) ?_
              refine wp_istore (ck_get kk_Mo_loopsKept 22 rfl) (by decide) rfl ?_
              refine wp_iload_n rfl (ck_get kk_Mo_loopsKept 23 rfl) ?_
              refine wp_istore (ck_get kk_Mo_loopsKept 24 rfl) (by decide) rfl ?_
              refine Wp.mono (m_loopA (M := ubM M o U2 UP2) (res := res) (md := md) (salt := salt) (by exact hM) ht hk2 (k2 - k + 1) k 0 ws K P A _ (by omega) (by omega) hs hT hN (FrU.up hb).2) ?_
              rintro r M₂ ⟨x, rfl, hx, K2, P2, A2, F2, h1, h2, h3, h4⟩
              refine ⟨x, rfl, Or.inr ⟨hv, ?_, U2, UP2, K2, P2, A2, F2, h1, ?_, hU2, h3, ?_, (FrU.up hb).trans h4.u⟩⟩
              · rw [nI_clamp (by omega), nI_clamp (by omega), nI_clamp (by omega), hx, Nat.zero_add]; rfl
              · rw [nI_clamp (by omega), nI_clamp (by omega), nI_clamp (by omega)]; exact h2
              · rw [h4.1 36 (by omega), up1_eq]
            · exact absurd hc30 (by decide)
    · rw [if_neg h0] at hv
      rw [decide_eq_false h0] at hli
      have hv0 : ¬ acV 1 ws (nI t') (nI k) (nI k2) = 0 := by rw [hv]; decide
      refine wp_iload_n rfl (ck_get kk_Mo_loopsKept 0 rfl) ?_
      refine wp_cS1i (ck_get kk_Mo_loopsKept 1 rfl) ml_Mo_152 (by omega) (Nat.le_of_ble_eq_true rfl) (Ci.to (m_isTenant) ?_)
      rintro _ M1 ⟨rfl, eqm1⟩
      obtain rfl := eqm1.symm
      rw [b1]
      first | refine wp_if_eqN (t := 33) (ck_get kk_Mo_loopsKept 2 rfl) (by decide) (by omega) (fun hc4 => ?_) (fun hc4 => ?_) | refine wp_if_eq (t := 33) (ck_get kk_Mo_loopsKept 2 rfl) (by decide) (fun hc4 => ?_) (fun hc4 => ?_)
      · exact absurd hc4 (by decide)
      · refine wp_iload_n rfl (ck_get kk_Mo_loopsKept 3 rfl) ?_
        refine wp_cS1i (ck_get kk_Mo_loopsKept 4 rfl) ml_Mo_156 (by omega) (Nat.le_of_ble_eq_true rfl) (Ci.to (m_isKey) ?_)
        rintro _ M1 ⟨rfl, eqm1⟩
        obtain rfl := eqm1.symm
        rw [b2]
        first | refine wp_if_eqN (t := 33) (ck_get kk_Mo_loopsKept 5 rfl) (by decide) (by omega) (fun hc11 => ?_) (fun hc11 => ?_) | refine wp_if_eq (t := 33) (ck_get kk_Mo_loopsKept 5 rfl) (by decide) (fun hc11 => ?_) (fun hc11 => ?_)
        · exact absurd hc11 (by decide)
        · refine wp_iload_n rfl (ck_get kk_Mo_loopsKept 6 rfl) ?_
          refine wp_cS1i (ck_get kk_Mo_loopsKept 7 rfl) ml_Mo_156 (by omega) (Nat.le_of_ble_eq_true rfl) (Ci.to (m_isKey) ?_)
          rintro _ M1 ⟨rfl, eqm1⟩
          obtain rfl := eqm1.symm
          rw [b3]
          first | refine wp_if_eqN (t := 33) (ck_get kk_Mo_loopsKept 8 rfl) (by decide) (by omega) (fun hc18 => ?_) (fun hc18 => ?_) | refine wp_if_eq (t := 33) (ck_get kk_Mo_loopsKept 8 rfl) (by decide) (fun hc18 => ?_) (fun hc18 => ?_)
          · exact absurd hc18 (by decide)
          · refine wp_iload_n rfl (ck_get kk_Mo_loopsKept 9 rfl) ?_
            refine wp_iload_n rfl (ck_get kk_Mo_loopsKept 10 rfl) ?_
            refine wp_isub (ck_get kk_Mo_loopsKept 11 rfl) ?_
            refine wp_iconst (v := nI 0) (by decide) (ck_get kk_Mo_loopsKept 12 rfl) ?_
            refine wp_bipush (v := nI 31) (by decide) (ck_get kk_Mo_loopsKept 13 rfl) ?_
            refine wp_cS3i (ck_get kk_Mo_loopsKept 14 rfl) ml_Mo_18 (by omega) (Nat.le_of_ble_eq_true rfl) (Ci.to (hli) ?_)
            rintro _ M1 ⟨rfl, eqm1⟩
            obtain rfl := eqm1.symm
            first | refine wp_if_neN (t := 35) (ck_get kk_Mo_loopsKept 15 rfl) (by decide) (by omega) (fun hc30 => ?_) (fun hc30 => ?_) | refine wp_if_ne (t := 35) (ck_get kk_Mo_loopsKept 15 rfl) (by decide) (fun hc30 => ?_) (fun hc30 => ?_)
            · exact absurd rfl hc30
            · refine wp_iconst (v := (-1)) (by decide) (ck_get kk_Mo_loopsKept 16 rfl) ?_
              refine wp_ireturn (ck_get kk_Mo_loopsKept 17 rfl) rfl rfl ⟨_, rfl, ?_⟩
              exact Or.inl ⟨hv0, hv.symm, rfl⟩
  · have hv : acV 1 ws t a b = -1 := by unfold acV; rw [if_neg (by omega), if_neg h1]
    have hv0 : ¬ acV 1 ws t a b = 0 := by rw [hv]; decide
    refine wp_iload_n rfl (ck_get kk_Mo_loopsKept 0 rfl) ?_
    refine wp_cS1i (ck_get kk_Mo_loopsKept 1 rfl) ml_Mo_152 (by omega) (Nat.le_of_ble_eq_true rfl) (Ci.to (m_isTenant) ?_)
    rintro _ M1 ⟨rfl, eqm1⟩
    obtain rfl := eqm1.symm
    first | refine wp_if_eqN (t := 33) (ck_get kk_Mo_loopsKept 2 rfl) (by decide) (by omega) (fun hc4 => ?_) (fun hc4 => ?_) | refine wp_if_eq (t := 33) (ck_get kk_Mo_loopsKept 2 rfl) (by decide) (fun hc4 => ?_) (fun hc4 => ?_)
    · refine wp_iconst (v := (-1)) (by decide) (ck_get kk_Mo_loopsKept 16 rfl) ?_
      refine wp_ireturn (ck_get kk_Mo_loopsKept 17 rfl) rfl rfl ⟨_, rfl, ?_⟩
      exact Or.inl ⟨hv0, hv.symm, rfl⟩
    · refine wp_iload_n rfl (ck_get kk_Mo_loopsKept 3 rfl) ?_
      refine wp_cS1i (ck_get kk_Mo_loopsKept 4 rfl) ml_Mo_156 (by omega) (Nat.le_of_ble_eq_true rfl) (Ci.to (m_isKey) ?_)
      rintro _ M1 ⟨rfl, eqm1⟩
      obtain rfl := eqm1.symm
      first | refine wp_if_eqN (t := 33) (ck_get kk_Mo_loopsKept 5 rfl) (by decide) (by omega) (fun hc11 => ?_) (fun hc11 => ?_) | refine wp_if_eq (t := 33) (ck_get kk_Mo_loopsKept 5 rfl) (by decide) (fun hc11 => ?_) (fun hc11 => ?_)
      · refine wp_iconst (v := (-1)) (by decide) (ck_get kk_Mo_loopsKept 16 rfl) ?_
        refine wp_ireturn (ck_get kk_Mo_loopsKept 17 rfl) rfl rfl ⟨_, rfl, ?_⟩
        exact Or.inl ⟨hv0, hv.symm, rfl⟩
      · refine wp_iload_n rfl (ck_get kk_Mo_loopsKept 6 rfl) ?_
        refine wp_cS1i (ck_get kk_Mo_loopsKept 7 rfl) ml_Mo_156 (by omega) (Nat.le_of_ble_eq_true rfl) (Ci.to (m_isKey) ?_)
        rintro _ M1 ⟨rfl, eqm1⟩
        obtain rfl := eqm1.symm
        first | refine wp_if_eqN (t := 33) (ck_get kk_Mo_loopsKept 8 rfl) (by decide) (by omega) (fun hc18 => ?_) (fun hc18 => ?_) | refine wp_if_eq (t := 33) (ck_get kk_Mo_loopsKept 8 rfl) (by decide) (fun hc18 => ?_) (fun hc18 => ?_)
        · refine wp_iconst (v := (-1)) (by decide) (ck_get kk_Mo_loopsKept 16 rfl) ?_
          refine wp_ireturn (ck_get kk_Mo_loopsKept 17 rfl) rfl rfl ⟨_, rfl, ?_⟩
          exact Or.inl ⟨hv0, hv.symm, rfl⟩
        · exact absurd ⟨bI_1 hc4, bI_1 hc11, bI_1 hc18⟩ h1
end MKP
